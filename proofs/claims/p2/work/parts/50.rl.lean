-- method 291: Model.chosenToLeave()I
set_option maxHeartbeats 100000000 in
theorem ct_291_236 {L : Nat} {xs : Nat → Int32} {d b c : Nat} {h : hp} {cr : Nat → Nat → Option Nat} {Q : hp_Q} (hcr : CR cr)  (g : GI h)    (k : ∀ (z0 : Int), (-1 ≤ z0 ∧ z0 ≤ 3) → (laP (canL (h 238)) z0) → Q (.inl (some (vi z0))) (hp_w h cr) b c) : wp (md_xa (L, xs)) (d + 2) 291 (0, [(0, .ref 236)], [], hp_w h cr, b, c) Q := by
  have F0 : FR [] h h := FR.refl
  refine wi_iconst (n := (-1)) (nx := 1) (r1 := 0) (r2 := 0) (r3 := 0) rfl ?_
  refine wi_istore_n (i := 1) (e := -1) (lo2 := [(1, vi (-1)), (0, .ref 236)]) (nx := 2) (r1 := 0) (r2 := 0) (r3 := 0) rfl rfl ?_
  refine wi_iconst (n := 0) (nx := 3) (r1 := 0) (r2 := 0) (r3 := 0) rfl ?_
  refine wi_istore_n (i := 2) (e := 0) (lo2 := [(2, vi 0), (1, vi (-1)), (0, .ref 236)]) (nx := 4) (r1 := 0) (r2 := 0) (r3 := 0) rfl rfl ?_
  refine wp.lo (lo := [(0, .ref 236), (1, vi (-1)), (2, vi 0)]) ⟨rfl, rfl, rfl, trivial⟩ rfl ?_
  refine wl_2 (fun x1 x2 h3 => h = h3 ∧ ((-1 ≤ x1 ∧ x1 ≤ 3) ∧ (0 ≤ x2 ∧ x2 ≤ 4)) ∧ (laX (canL (h 238)) x1 x2)) (fun x1 x2 h3 => ((4 : Int) + 1 - x2).toNat) (fun x1 x2 h3 => (4, [(0, .ref 236), (1, vi x1), (2, vi x2)], [], hp_w h3 cr, b, c)) ?_ (-1) 0 h ⟨rfl, (show (-1 ≤ (-1) ∧ (-1) ≤ 3) ∧ (0 ≤ 0 ∧ 0 ≤ 4) by omega), laX.start⟩
  intro x1 x2 h3 ⟨e3, f3, X3_0⟩ I3
  subst e3
  refine wi_iload_n (i := 2) (e := x2) (nx := 5) (r1 := 0) (r2 := 0) (r3 := 0) rfl rfl ?_
  refine wi_aload_n (i := 0) (x := 236) (nx := 6) (r1 := 0) (r2 := 0) (r3 := 0) rfl rfl ?_
  refine wr_gr (k0 := 236) (x := 238) (nx := 9) (r1 := 11) (r2 := 13) (r3 := 0) rfl rfl (by decide) rfl ⟨rfl, rfl⟩ rfl ?_
  refine wi_iconst (n := 1) (nx := 10) (r1 := 0) (r2 := 0) (r3 := 0) rfl ?_
  have b5 := gi_b (lo := 0) (hi := 4) g 238 1 rfl
  refine wr_ia (k0 := 238) (a := 1) (f := 1) (x := h 238 1) (nx := 11) (r1 := 0) (r2 := 0) (r3 := 0) rfl (by decide) rfl (by omega) (by omega) (by decide) rfl ?_
  refine wi_icmp (cd := .ge) (nx := 14) (r1 := 79) (r2 := 0) (r3 := 0) rfl (by omega) (by omega) (fun (q6 : (h 238 1) ≤ x2) => ?_) (fun (q6 : ¬ ((h 238 1) ≤ x2)) => ?_)
  ·
    refine wi_iload_n (i := 1) (e := x1) (nx := 80) (r1 := 0) (r2 := 0) (r3 := 0) rfl rfl ?_
    refine wi_ireturn (nx := 81) (r1 := 0) (r2 := 0) (r3 := 0) rfl rfl ?_
    exact k x1 (by omega) (laX.done X3_0 (fun v hv c => by have c1 := c.1; omega))
  ·
    refine wi_aload_n (i := 0) (x := 236) (nx := 15) (r1 := 0) (r2 := 0) (r3 := 0) rfl rfl ?_
    refine wi_iload_n (i := 2) (e := x2) (nx := 16) (r1 := 0) (r2 := 0) (r3 := 0) rfl rfl ?_
    rcases (show x2 = 0 ∨ x2 = 1 ∨ x2 = 2 ∨ x2 = 3 by omega) with q7 | q7 | q7 | q7
    ·
      rw [q7]
      refine wr_V (k0 := 236) (rest := []) (as := [.ref 236, vi 0]) (nx := 19) (r1 := 267) (r2 := 1) (r3 := 11) rfl rfl rfl (of_decide_eq_true rfl) rfl rfl (by decide) rfl rfl (of_decide_eq_true rfl) (of_decide_eq_true rfl) ?_
      refine wi_aload_n (i := 0) (x := 236) (nx := 1) (r1 := 0) (r2 := 0) (r3 := 0) rfl rfl ?_
      refine wr_gr (k0 := 236) (x := 238) (nx := 4) (r1 := 11) (r2 := 13) (r3 := 0) rfl rfl (by decide) rfl ⟨rfl, rfl⟩ rfl ?_
      refine wi_bipush (n := 98) (nx := 6) (r1 := 0) (r2 := 0) (r3 := 0) rfl (by decide) ?_
      refine wi_iload_n (i := 1) (e := 0) (nx := 7) (r1 := 0) (r2 := 0) (r3 := 0) rfl rfl ?_
      refine wr_addL (98) (nx := 8) (r1 := 0) (r2 := 0) (r3 := 0) rfl (by decide) ?_
      have b8 := gi_b (lo := 0) (hi := 6) g 238 98 rfl
      refine wr_ia (k0 := 238) (a := 98) (f := 98) (x := h 238 98) (nx := 9) (r1 := 0) (r2 := 0) (r3 := 0) rfl (by decide) rfl (by omega) (by omega) (by decide) rfl ?_
      refine wi_if (cd := .eq) (nx := 12) (r1 := 25) (r2 := 0) (r3 := 0) rfl (by omega) (fun (q9 : (h 238 98) = 0) => ?_) (fun (q9 : ¬ ((h 238 98) = 0)) => ?_)
      ·
        refine wi_iconst (n := 0) (nx := 26) (r1 := 0) (r2 := 0) (r3 := 0) rfl ?_
        refine wi_zreturn (nx := 27) (r1 := 0) (r2 := 0) (r3 := 0) rfl rfl (by omega) ?_
        refine wk_i ?_
        refine wi_if (cd := .ne) (nx := 22) (r1 := 25) (r2 := 0) (r3 := 0) rfl (by omega) (fun (q10 : 0 ≠ 0) => by exfalso; omega) (fun (q10 : ¬ (0 ≠ 0)) => ?_)
        refine wi_goto (nx := 25) (r1 := 73) (r2 := 0) (r3 := 0) rfl ?_
        refine wr_iincL (i := 2) (n := 1) (v := 0) (1) ([(2, vi 1), (0, .ref 236), (1, vi x1)]) (nx := 76) (r1 := 0) (r2 := 0) (r3 := 0) rfl rfl (by decide) rfl ?_
        refine wi_goto (nx := 79) (r1 := 4) (r2 := 0) (r3 := 0) rfl ?_
        refine wp.lo (lo := [(0, .ref 236), (1, vi x1), (2, vi 1)]) ⟨rfl, rfl, rfl, trivial⟩ rfl ?_
        have b11 := gi_b (lo := 0) (hi := 9999) g 238 67 rfl
        have b12 := gi_b (lo := 0) (hi := 3) g 238 102 rfl
        have b13 := gi_b (lo := 0) (hi := 3) g 238 7 rfl
        have b14 := gi_b (lo := 0) (hi := 11) g 238 74 rfl
        have b15 := gi_b (lo := 0) (hi := 12) g 238 106 rfl
        have b16 := gi_b (lo := 0) (hi := 999) g 238 3 rfl
        have cn17 : ¬ canL (h 238) 0 := fun c => by
          have c1 : (0 : Int) + 1 ≤ h 238 1 := c.1
          have c2 : 1 ≤ h 238 98 := c.2.1
          have c3 : h 238 67 ≤ 9998 := c.2.2.1
          have c4 : ((1 ≤ h 238 (43 + (h 238 74).toNat) ∧ h 238 102 < h 238 7) ∨ (h 238 (43 + (h 238 74).toNat) ≤ 0 ∧ h 238 74 - h 238 106 ≤ h 238 3)) := c.2.2.2
          clear c4; omega
        exact I3 x1 1 h ⟨rfl, (show (-1 ≤ x1 ∧ x1 ≤ 3) ∧ (0 ≤ 1 ∧ 1 ≤ 4) by omega), (laX.no X3_0 (by omega) 0 (by omega) cn17)⟩ (show ((4 : Int) + 1 - 1).toNat < ((4 : Int) + 1 - x2).toNat by omega)
      ·
        refine wi_aload_n (i := 0) (x := 236) (nx := 13) (r1 := 0) (r2 := 0) (r3 := 0) rfl rfl ?_
        refine wr_gr (k0 := 236) (x := 238) (nx := 16) (r1 := 11) (r2 := 13) (r3 := 0) rfl rfl (by decide) rfl ⟨rfl, rfl⟩ rfl ?_
        refine wi_bipush (n := 67) (nx := 18) (r1 := 0) (r2 := 0) (r3 := 0) rfl (by decide) ?_
        have b10 := gi_b (lo := 0) (hi := 9999) g 238 67 rfl
        refine wr_ia (k0 := 238) (a := 67) (f := 67) (x := h 238 67) (nx := 19) (r1 := 0) (r2 := 0) (r3 := 0) rfl (by decide) rfl (by omega) (by omega) (by decide) rfl ?_
        refine wi_sipush (n := 9999) (nx := 22) (r1 := 0) (r2 := 0) (r3 := 0) rfl (by decide) ?_
        refine wi_icmp (cd := .ne) (nx := 25) (r1 := 27) (r2 := 0) (r3 := 0) rfl (by omega) (by omega) (fun (q11 : (h 238 67) ≠ 9999) => ?_) (fun (q11 : ¬ ((h 238 67) ≠ 9999)) => ?_)
        ·
          refine wi_aload_n (i := 0) (x := 236) (nx := 28) (r1 := 0) (r2 := 0) (r3 := 0) rfl rfl ?_
          refine wi_iload_n (i := 1) (e := 0) (nx := 29) (r1 := 0) (r2 := 0) (r3 := 0) rfl rfl ?_
          refine wi_iconst (n := 0) (nx := 30) (r1 := 0) (r2 := 0) (r3 := 0) rfl ?_
          refine wr_V (k0 := 236) (rest := []) (as := [.ref 236, vi 0, vi 0]) (nx := 33) (r1 := 258) (r2 := 2) (r3 := 11) rfl rfl rfl (of_decide_eq_true rfl) rfl rfl (by decide) rfl rfl (of_decide_eq_true rfl) (of_decide_eq_true rfl) ?_
          refine wi_aload_n (i := 0) (x := 236) (nx := 1) (r1 := 0) (r2 := 0) (r3 := 0) rfl rfl ?_
          refine wr_gr (k0 := 236) (x := 238) (nx := 4) (r1 := 11) (r2 := 13) (r3 := 0) rfl rfl (by decide) rfl ⟨rfl, rfl⟩ rfl ?_
          refine wi_bipush (n := 74) (nx := 6) (r1 := 0) (r2 := 0) (r3 := 0) rfl (by decide) ?_
          refine wi_bipush (n := 6) (nx := 8) (r1 := 0) (r2 := 0) (r3 := 0) rfl (by decide) ?_
          refine wi_iload_n (i := 1) (e := 0) (nx := 9) (r1 := 0) (r2 := 0) (r3 := 0) rfl rfl ?_
          refine wr_mulL (0) (nx := 10) (r1 := 0) (r2 := 0) (r3 := 0) rfl (by decide) ?_
          refine wr_addL (74) (nx := 11) (r1 := 0) (r2 := 0) (r3 := 0) rfl (by decide) ?_
          refine wi_iload_n (i := 2) (e := 0) (nx := 12) (r1 := 0) (r2 := 0) (r3 := 0) rfl rfl ?_
          refine wr_addL (74) (nx := 13) (r1 := 0) (r2 := 0) (r3 := 0) rfl (by decide) ?_
          have b12 := gi_b (lo := 0) (hi := 11) g 238 74 rfl
          refine wr_ia (k0 := 238) (a := 74) (f := 74) (x := h 238 74) (nx := 14) (r1 := 0) (r2 := 0) (r3 := 0) rfl (by decide) rfl (by omega) (by omega) (by decide) rfl ?_
          refine wi_ireturn (nx := 15) (r1 := 0) (r2 := 0) (r3 := 0) rfl rfl ?_
          refine wk_i ?_
          refine wi_istore_n (i := 2) (e := h 238 74) (lo2 := [(2, vi (h 238 74)), (0, .ref 236), (1, vi 0)]) (nx := 34) (r1 := 0) (r2 := 0) (r3 := 0) rfl rfl ?_
          refine wi_aload_n (i := 0) (x := 236) (nx := 35) (r1 := 0) (r2 := 0) (r3 := 0) rfl rfl ?_
          refine wr_gr (k0 := 236) (x := 238) (nx := 38) (r1 := 11) (r2 := 13) (r3 := 0) rfl rfl (by decide) rfl ⟨rfl, rfl⟩ rfl ?_
          refine wi_bipush (n := 43) (nx := 40) (r1 := 0) (r2 := 0) (r3 := 0) rfl (by decide) ?_
          refine wi_iload_n (i := 2) (e := h 238 74) (nx := 41) (r1 := 0) (r2 := 0) (r3 := 0) rfl rfl ?_
          refine wr_add (nx := 42) (r1 := 0) (r2 := 0) (r3 := 0) rfl (fun e13 (fe13 : e13 = 43 + (h 238 74)) => ?_)
          obtain ⟨i14, ei14⟩ : ∃ q : Nat, e13 = (q : Int) := ⟨(e13).toNat, by omega⟩
          have b15 := gi_b (lo := 0) (hi := 999) g 238 i14 (gi_rg 43 12 (fun _ => rfl) (by decide +kernel) (by omega))
          refine wr_ia (k0 := 238) (a := e13) (f := i14) (x := h 238 i14) (nx := 43) (r1 := 0) (r2 := 0) (r3 := 0) rfl (by decide) rfl (by omega) (by omega) (by decide) rfl ?_
          refine wi_if (cd := .le) (nx := 46) (r1 := 71) (r2 := 0) (r3 := 0) rfl (by omega) (fun (q16 : (h 238 i14) ≤ 0) => ?_) (fun (q16 : ¬ ((h 238 i14) ≤ 0)) => ?_)
          ·
            refine wi_iload_n (i := 2) (e := h 238 74) (nx := 72) (r1 := 0) (r2 := 0) (r3 := 0) rfl rfl ?_
            refine wi_aload_n (i := 0) (x := 236) (nx := 73) (r1 := 0) (r2 := 0) (r3 := 0) rfl rfl ?_
            refine wr_gr (k0 := 236) (x := 238) (nx := 76) (r1 := 11) (r2 := 13) (r3 := 0) rfl rfl (by decide) rfl ⟨rfl, rfl⟩ rfl ?_
            refine wi_bipush (n := 106) (nx := 78) (r1 := 0) (r2 := 0) (r3 := 0) rfl (by decide) ?_
            have b17 := gi_b (lo := 0) (hi := 12) g 238 106 rfl
            refine wr_ia (k0 := 238) (a := 106) (f := 106) (x := h 238 106) (nx := 79) (r1 := 0) (r2 := 0) (r3 := 0) rfl (by decide) rfl (by omega) (by omega) (by decide) rfl ?_
            refine wr_sub (nx := 80) (r1 := 0) (r2 := 0) (r3 := 0) rfl (fun e18 (fe18 : e18 = (h 238 74) - (h 238 106)) => ?_)
            refine wi_aload_n (i := 0) (x := 236) (nx := 81) (r1 := 0) (r2 := 0) (r3 := 0) rfl rfl ?_
            refine wr_gr (k0 := 236) (x := 238) (nx := 84) (r1 := 11) (r2 := 13) (r3 := 0) rfl rfl (by decide) rfl ⟨rfl, rfl⟩ rfl ?_
            refine wi_iconst (n := 3) (nx := 85) (r1 := 0) (r2 := 0) (r3 := 0) rfl ?_
            have b19 := gi_b (lo := 0) (hi := 999) g 238 3 rfl
            refine wr_ia (k0 := 238) (a := 3) (f := 3) (x := h 238 3) (nx := 86) (r1 := 0) (r2 := 0) (r3 := 0) rfl (by decide) rfl (by omega) (by omega) (by decide) rfl ?_
            refine wi_icmp (cd := .gt) (nx := 89) (r1 := 93) (r2 := 0) (r3 := 0) rfl (by omega) (by omega) (fun (q20 : (h 238 3) < e18) => ?_) (fun (q20 : ¬ ((h 238 3) < e18)) => ?_)
            ·
              refine wi_iconst (n := 0) (nx := 94) (r1 := 0) (r2 := 0) (r3 := 0) rfl ?_
              refine wi_zreturn (nx := 95) (r1 := 0) (r2 := 0) (r3 := 0) rfl rfl (by omega) ?_
              refine wk_i ?_
              refine wi_if (cd := .ne) (nx := 22) (r1 := 25) (r2 := 0) (r3 := 0) rfl (by omega) (fun (q21 : 0 ≠ 0) => by exfalso; omega) (fun (q21 : ¬ (0 ≠ 0)) => ?_)
              refine wi_goto (nx := 25) (r1 := 73) (r2 := 0) (r3 := 0) rfl ?_
              refine wr_iincL (i := 2) (n := 1) (v := 0) (1) ([(2, vi 1), (0, .ref 236), (1, vi x1)]) (nx := 76) (r1 := 0) (r2 := 0) (r3 := 0) rfl rfl (by decide) rfl ?_
              refine wi_goto (nx := 79) (r1 := 4) (r2 := 0) (r3 := 0) rfl ?_
              refine wp.lo (lo := [(0, .ref 236), (1, vi x1), (2, vi 1)]) ⟨rfl, rfl, rfl, trivial⟩ rfl ?_
              have b22 := gi_b (lo := 0) (hi := 3) g 238 102 rfl
              have b23 := gi_b (lo := 0) (hi := 3) g 238 7 rfl
              have c25 : h 238 i14 = h 238 i14 := rfl
              have cn24 : ¬ canL (h 238) 0 := fun c => by
                have c1 : (0 : Int) + 1 ≤ h 238 1 := c.1
                have c2 : 1 ≤ h 238 98 := c.2.1
                have c3 : h 238 67 ≤ 9998 := c.2.2.1
                have c4 : ((1 ≤ h 238 (43 + (h 238 74).toNat) ∧ h 238 102 < h 238 7) ∨ (h 238 (43 + (h 238 74).toNat) ≤ 0 ∧ h 238 74 - h 238 106 ≤ h 238 3)) := c.2.2.2
                rw [show 43 + (h 238 74).toNat = i14 by omega] at c4; omega
              exact I3 x1 1 h ⟨rfl, (show (-1 ≤ x1 ∧ x1 ≤ 3) ∧ (0 ≤ 1 ∧ 1 ≤ 4) by omega), (laX.no X3_0 (by omega) 0 (by omega) cn24)⟩ (show ((4 : Int) + 1 - 1).toNat < ((4 : Int) + 1 - x2).toNat by omega)
            ·
              refine wi_iconst (n := 1) (nx := 90) (r1 := 0) (r2 := 0) (r3 := 0) rfl ?_
              refine wi_goto (nx := 93) (r1 := 94) (r2 := 0) (r3 := 0) rfl ?_
              refine wi_zreturn (nx := 95) (r1 := 0) (r2 := 0) (r3 := 0) rfl rfl (by omega) ?_
              refine wk_i ?_
              refine wi_if (cd := .ne) (nx := 22) (r1 := 25) (r2 := 0) (r3 := 0) rfl (by omega) (fun (q21 : 1 ≠ 0) => ?_) (fun (q21 : ¬ (1 ≠ 0)) => by exfalso; omega)
              refine wi_aload_n (i := 0) (x := 236) (nx := 26) (r1 := 0) (r2 := 0) (r3 := 0) rfl rfl ?_
              refine wr_gr (k0 := 236) (x := 238) (nx := 29) (r1 := 11) (r2 := 13) (r3 := 0) rfl rfl (by decide) rfl ⟨rfl, rfl⟩ rfl ?_
              refine wi_bipush (n := 31) (nx := 31) (r1 := 0) (r2 := 0) (r3 := 0) rfl (by decide) ?_
              refine wi_aload_n (i := 0) (x := 236) (nx := 32) (r1 := 0) (r2 := 0) (r3 := 0) rfl rfl ?_
              refine wi_iload_n (i := 2) (e := 0) (nx := 33) (r1 := 0) (r2 := 0) (r3 := 0) rfl rfl ?_
              refine wi_iconst (n := 0) (nx := 34) (r1 := 0) (r2 := 0) (r3 := 0) rfl ?_
              refine wr_V (k0 := 236) (rest := [vi 31, .ref 238]) (as := [.ref 236, vi 0, vi 0]) (nx := 37) (r1 := 258) (r2 := 2) (r3 := 11) rfl rfl rfl (of_decide_eq_true rfl) rfl rfl (by decide) rfl rfl (of_decide_eq_true rfl) (of_decide_eq_true rfl) ?_
              refine wi_aload_n (i := 0) (x := 236) (nx := 1) (r1 := 0) (r2 := 0) (r3 := 0) rfl rfl ?_
              refine wr_gr (k0 := 236) (x := 238) (nx := 4) (r1 := 11) (r2 := 13) (r3 := 0) rfl rfl (by decide) rfl ⟨rfl, rfl⟩ rfl ?_
              refine wi_bipush (n := 74) (nx := 6) (r1 := 0) (r2 := 0) (r3 := 0) rfl (by decide) ?_
              refine wi_bipush (n := 6) (nx := 8) (r1 := 0) (r2 := 0) (r3 := 0) rfl (by decide) ?_
              refine wi_iload_n (i := 1) (e := 0) (nx := 9) (r1 := 0) (r2 := 0) (r3 := 0) rfl rfl ?_
              refine wr_mulL (0) (nx := 10) (r1 := 0) (r2 := 0) (r3 := 0) rfl (by decide) ?_
              refine wr_addL (74) (nx := 11) (r1 := 0) (r2 := 0) (r3 := 0) rfl (by decide) ?_
              refine wi_iload_n (i := 2) (e := 0) (nx := 12) (r1 := 0) (r2 := 0) (r3 := 0) rfl rfl ?_
              refine wr_addL (74) (nx := 13) (r1 := 0) (r2 := 0) (r3 := 0) rfl (by decide) ?_
              refine wr_ia (k0 := 238) (a := 74) (f := 74) (x := h 238 74) (nx := 14) (r1 := 0) (r2 := 0) (r3 := 0) rfl (by decide) rfl (by omega) (by omega) (by decide) rfl ?_
              refine wi_ireturn (nx := 15) (r1 := 0) (r2 := 0) (r3 := 0) rfl rfl ?_
              refine wk_i ?_
              refine wr_add (nx := 38) (r1 := 0) (r2 := 0) (r3 := 0) rfl (fun e22 (fe22 : e22 = 31 + (h 238 74)) => ?_)
              obtain ⟨i23, ei23⟩ : ∃ q : Nat, e22 = (q : Int) := ⟨(e22).toNat, by omega⟩
              have b24 := gi_b (lo := 0) (hi := 4) g 238 i23 (gi_rg 31 12 (fun _ => rfl) (by decide +kernel) (by omega))
              refine wr_ia (k0 := 238) (a := e22) (f := i23) (x := h 238 i23) (nx := 39) (r1 := 0) (r2 := 0) (r3 := 0) rfl (by decide) rfl (by omega) (by omega) (by decide) rfl ?_
              refine wi_aload_n (i := 0) (x := 236) (nx := 40) (r1 := 0) (r2 := 0) (r3 := 0) rfl rfl ?_
              refine wr_gr (k0 := 236) (x := 238) (nx := 43) (r1 := 11) (r2 := 13) (r3 := 0) rfl rfl (by decide) rfl ⟨rfl, rfl⟩ rfl ?_
              refine wi_bipush (n := 68) (nx := 45) (r1 := 0) (r2 := 0) (r3 := 0) rfl (by decide) ?_
              have b25 := gi_b (lo := -1) (hi := 4) g 238 68 rfl
              refine wr_ia (k0 := 238) (a := 68) (f := 68) (x := h 238 68) (nx := 46) (r1 := 0) (r2 := 0) (r3 := 0) rfl (by decide) rfl (by omega) (by omega) (by decide) rfl ?_
              refine wi_icmp (cd := .ne) (nx := 49) (r1 := 51) (r2 := 0) (r3 := 0) rfl (by omega) (by omega) (fun (q26 : (h 238 i23) ≠ (h 238 68)) => ?_) (fun (q26 : ¬ ((h 238 i23) ≠ (h 238 68))) => ?_)
              ·
                refine wi_iload_n (i := 1) (e := x1) (nx := 52) (r1 := 0) (r2 := 0) (r3 := 0) rfl rfl ?_
                refine wi_iconst (n := (-1)) (nx := 53) (r1 := 0) (r2 := 0) (r3 := 0) rfl ?_
                refine wi_icmp (cd := .eq) (nx := 56) (r1 := 71) (r2 := 0) (r3 := 0) rfl (by omega) (by omega) (fun (q27 : x1 = (-1)) => ?_) (fun (q27 : ¬ (x1 = (-1))) => ?_)
                ·
                  refine wi_iload_n (i := 2) (e := 0) (nx := 72) (r1 := 0) (r2 := 0) (r3 := 0) rfl rfl ?_
                  refine wi_istore_n (i := 1) (e := 0) (lo2 := [(1, vi 0), (0, .ref 236), (2, vi 0)]) (nx := 73) (r1 := 0) (r2 := 0) (r3 := 0) rfl rfl ?_
                  refine wr_iincL (i := 2) (n := 1) (v := 0) (1) ([(2, vi 1), (1, vi 0), (0, .ref 236)]) (nx := 76) (r1 := 0) (r2 := 0) (r3 := 0) rfl rfl (by decide) rfl ?_
                  refine wi_goto (nx := 79) (r1 := 4) (r2 := 0) (r3 := 0) rfl ?_
                  refine wp.lo (lo := [(0, .ref 236), (1, vi 0), (2, vi 1)]) ⟨rfl, rfl, rfl, trivial⟩ rfl ?_
                  have b28 := gi_b (lo := 0) (hi := 3) g 238 102 rfl
                  have b29 := gi_b (lo := 0) (hi := 3) g 238 7 rfl
                  have c31 : h 238 i14 = h 238 i14 := rfl
                  have cn30 : canL (h 238) 0 := ⟨(show (0 : Int) + 1 ≤ h 238 1 by omega), (show 1 ≤ h 238 98 by omega), (show h 238 67 ≤ 9998 by omega), (show ((1 ≤ h 238 (43 + (h 238 74).toNat) ∧ h 238 102 < h 238 7) ∨ (h 238 (43 + (h 238 74).toNat) ≤ 0 ∧ h 238 74 - h 238 106 ≤ h 238 3)) by rw [show 43 + (h 238 74).toNat = i14 by omega]; omega)⟩
                  exact I3 0 1 h ⟨rfl, (show (-1 ≤ 0 ∧ 0 ≤ 3) ∧ (0 ≤ 1 ∧ 1 ≤ 4) by omega), (laX.yes 0 (by decide) (by omega) cn30)⟩ (show ((4 : Int) + 1 - 1).toNat < ((4 : Int) + 1 - x2).toNat by omega)
                ·
                  refine wi_aload_n (i := 0) (x := 236) (nx := 57) (r1 := 0) (r2 := 0) (r3 := 0) rfl rfl ?_
                  refine wi_iload_n (i := 2) (e := 0) (nx := 58) (r1 := 0) (r2 := 0) (r3 := 0) rfl rfl ?_
                  refine wi_iconst (n := 0) (nx := 59) (r1 := 0) (r2 := 0) (r3 := 0) rfl ?_
                  refine wr_V (k0 := 236) (rest := []) (as := [.ref 236, vi 0, vi 0]) (nx := 62) (r1 := 258) (r2 := 2) (r3 := 11) rfl rfl rfl (of_decide_eq_true rfl) rfl rfl (by decide) rfl rfl (of_decide_eq_true rfl) (of_decide_eq_true rfl) ?_
                  refine wi_aload_n (i := 0) (x := 236) (nx := 1) (r1 := 0) (r2 := 0) (r3 := 0) rfl rfl ?_
                  refine wr_gr (k0 := 236) (x := 238) (nx := 4) (r1 := 11) (r2 := 13) (r3 := 0) rfl rfl (by decide) rfl ⟨rfl, rfl⟩ rfl ?_
                  refine wi_bipush (n := 74) (nx := 6) (r1 := 0) (r2 := 0) (r3 := 0) rfl (by decide) ?_
                  refine wi_bipush (n := 6) (nx := 8) (r1 := 0) (r2 := 0) (r3 := 0) rfl (by decide) ?_
                  refine wi_iload_n (i := 1) (e := 0) (nx := 9) (r1 := 0) (r2 := 0) (r3 := 0) rfl rfl ?_
                  refine wr_mulL (0) (nx := 10) (r1 := 0) (r2 := 0) (r3 := 0) rfl (by decide) ?_
                  refine wr_addL (74) (nx := 11) (r1 := 0) (r2 := 0) (r3 := 0) rfl (by decide) ?_
                  refine wi_iload_n (i := 2) (e := 0) (nx := 12) (r1 := 0) (r2 := 0) (r3 := 0) rfl rfl ?_
                  refine wr_addL (74) (nx := 13) (r1 := 0) (r2 := 0) (r3 := 0) rfl (by decide) ?_
                  refine wr_ia (k0 := 238) (a := 74) (f := 74) (x := h 238 74) (nx := 14) (r1 := 0) (r2 := 0) (r3 := 0) rfl (by decide) rfl (by omega) (by omega) (by decide) rfl ?_
                  refine wi_ireturn (nx := 15) (r1 := 0) (r2 := 0) (r3 := 0) rfl rfl ?_
                  refine wk_i ?_
                  refine wi_aload_n (i := 0) (x := 236) (nx := 63) (r1 := 0) (r2 := 0) (r3 := 0) rfl rfl ?_
                  refine wi_iload_n (i := 1) (e := x1) (nx := 64) (r1 := 0) (r2 := 0) (r3 := 0) rfl rfl ?_
                  refine wi_iconst (n := 0) (nx := 65) (r1 := 0) (r2 := 0) (r3 := 0) rfl ?_
                  rcases (show x1 = 0 ∨ x1 = 1 ∨ x1 = 2 ∨ x1 = 3 by omega) with q28 | q28 | q28 | q28
                  ·
                    rw [q28]
                    refine wr_V (k0 := 236) (rest := [vi (h 238 74)]) (as := [.ref 236, vi 0, vi 0]) (nx := 68) (r1 := 258) (r2 := 2) (r3 := 11) rfl rfl rfl (of_decide_eq_true rfl) rfl rfl (by decide) rfl rfl (of_decide_eq_true rfl) (of_decide_eq_true rfl) ?_
                    refine wi_aload_n (i := 0) (x := 236) (nx := 1) (r1 := 0) (r2 := 0) (r3 := 0) rfl rfl ?_
                    refine wr_gr (k0 := 236) (x := 238) (nx := 4) (r1 := 11) (r2 := 13) (r3 := 0) rfl rfl (by decide) rfl ⟨rfl, rfl⟩ rfl ?_
                    refine wi_bipush (n := 74) (nx := 6) (r1 := 0) (r2 := 0) (r3 := 0) rfl (by decide) ?_
                    refine wi_bipush (n := 6) (nx := 8) (r1 := 0) (r2 := 0) (r3 := 0) rfl (by decide) ?_
                    refine wi_iload_n (i := 1) (e := 0) (nx := 9) (r1 := 0) (r2 := 0) (r3 := 0) rfl rfl ?_
                    refine wr_mulL (0) (nx := 10) (r1 := 0) (r2 := 0) (r3 := 0) rfl (by decide) ?_
                    refine wr_addL (74) (nx := 11) (r1 := 0) (r2 := 0) (r3 := 0) rfl (by decide) ?_
                    refine wi_iload_n (i := 2) (e := 0) (nx := 12) (r1 := 0) (r2 := 0) (r3 := 0) rfl rfl ?_
                    refine wr_addL (74) (nx := 13) (r1 := 0) (r2 := 0) (r3 := 0) rfl (by decide) ?_
                    refine wr_ia (k0 := 238) (a := 74) (f := 74) (x := h 238 74) (nx := 14) (r1 := 0) (r2 := 0) (r3 := 0) rfl (by decide) rfl (by omega) (by omega) (by decide) rfl ?_
                    refine wi_ireturn (nx := 15) (r1 := 0) (r2 := 0) (r3 := 0) rfl rfl ?_
                    refine wk_i ?_
                    refine wi_icmp (cd := .ge) (nx := 71) (r1 := 73) (r2 := 0) (r3 := 0) rfl (by omega) (by omega) (fun (q29 : (h 238 74) ≤ (h 238 74)) => ?_) (fun (q29 : ¬ ((h 238 74) ≤ (h 238 74))) => by exfalso; omega)
                    refine wr_iincL (i := 2) (n := 1) (v := 0) (1) ([(2, vi 1), (0, .ref 236), (1, vi 0)]) (nx := 76) (r1 := 0) (r2 := 0) (r3 := 0) rfl rfl (by decide) rfl ?_
                    refine wi_goto (nx := 79) (r1 := 4) (r2 := 0) (r3 := 0) rfl ?_
                    refine wp.lo (lo := [(0, .ref 236), (1, vi 0), (2, vi 1)]) ⟨rfl, rfl, rfl, trivial⟩ rfl ?_
                    have b30 := gi_b (lo := 0) (hi := 3) g 238 102 rfl
                    have b31 := gi_b (lo := 0) (hi := 3) g 238 7 rfl
                    have c33 : h 238 i14 = h 238 i14 := rfl
                    have cn32 : canL (h 238) 0 := ⟨(show (0 : Int) + 1 ≤ h 238 1 by omega), (show 1 ≤ h 238 98 by omega), (show h 238 67 ≤ 9998 by omega), (show ((1 ≤ h 238 (43 + (h 238 74).toNat) ∧ h 238 102 < h 238 7) ∨ (h 238 (43 + (h 238 74).toNat) ≤ 0 ∧ h 238 74 - h 238 106 ≤ h 238 3)) by rw [show 43 + (h 238 74).toNat = i14 by omega]; omega)⟩
                    exact I3 0 1 h ⟨rfl, (show (-1 ≤ 0 ∧ 0 ≤ 3) ∧ (0 ≤ 1 ∧ 1 ≤ 4) by omega), (laX.yes 0 (by decide) (by omega) cn32)⟩ (show ((4 : Int) + 1 - 1).toNat < ((4 : Int) + 1 - x2).toNat by omega)
                  ·
                    rw [q28]
                    refine wr_V (k0 := 236) (rest := [vi (h 238 74)]) (as := [.ref 236, vi 1, vi 0]) (nx := 68) (r1 := 258) (r2 := 2) (r3 := 11) rfl rfl rfl (of_decide_eq_true rfl) rfl rfl (by decide) rfl rfl (of_decide_eq_true rfl) (of_decide_eq_true rfl) ?_
                    refine wi_aload_n (i := 0) (x := 236) (nx := 1) (r1 := 0) (r2 := 0) (r3 := 0) rfl rfl ?_
                    refine wr_gr (k0 := 236) (x := 238) (nx := 4) (r1 := 11) (r2 := 13) (r3 := 0) rfl rfl (by decide) rfl ⟨rfl, rfl⟩ rfl ?_
                    refine wi_bipush (n := 74) (nx := 6) (r1 := 0) (r2 := 0) (r3 := 0) rfl (by decide) ?_
                    refine wi_bipush (n := 6) (nx := 8) (r1 := 0) (r2 := 0) (r3 := 0) rfl (by decide) ?_
                    refine wi_iload_n (i := 1) (e := 1) (nx := 9) (r1 := 0) (r2 := 0) (r3 := 0) rfl rfl ?_
                    refine wr_mulL (6) (nx := 10) (r1 := 0) (r2 := 0) (r3 := 0) rfl (by decide) ?_
                    refine wr_addL (80) (nx := 11) (r1 := 0) (r2 := 0) (r3 := 0) rfl (by decide) ?_
                    refine wi_iload_n (i := 2) (e := 0) (nx := 12) (r1 := 0) (r2 := 0) (r3 := 0) rfl rfl ?_
                    refine wr_addL (80) (nx := 13) (r1 := 0) (r2 := 0) (r3 := 0) rfl (by decide) ?_
                    have b29 := gi_b (lo := 0) (hi := 11) g 238 80 rfl
                    refine wr_ia (k0 := 238) (a := 80) (f := 80) (x := h 238 80) (nx := 14) (r1 := 0) (r2 := 0) (r3 := 0) rfl (by decide) rfl (by omega) (by omega) (by decide) rfl ?_
                    refine wi_ireturn (nx := 15) (r1 := 0) (r2 := 0) (r3 := 0) rfl rfl ?_
                    refine wk_i ?_
                    refine wi_icmp (cd := .ge) (nx := 71) (r1 := 73) (r2 := 0) (r3 := 0) rfl (by omega) (by omega) (fun (q30 : (h 238 80) ≤ (h 238 74)) => ?_) (fun (q30 : ¬ ((h 238 80) ≤ (h 238 74))) => ?_)
                    ·
                      refine wr_iincL (i := 2) (n := 1) (v := 0) (1) ([(2, vi 1), (0, .ref 236), (1, vi 1)]) (nx := 76) (r1 := 0) (r2 := 0) (r3 := 0) rfl rfl (by decide) rfl ?_
                      refine wi_goto (nx := 79) (r1 := 4) (r2 := 0) (r3 := 0) rfl ?_
                      refine wp.lo (lo := [(0, .ref 236), (1, vi 1), (2, vi 1)]) ⟨rfl, rfl, rfl, trivial⟩ rfl ?_
                      have b31 := gi_b (lo := 0) (hi := 3) g 238 102 rfl
                      have b32 := gi_b (lo := 0) (hi := 3) g 238 7 rfl
                      have c34 : h 238 i14 = h 238 i14 := rfl
                      have cn33 : canL (h 238) 0 := ⟨(show (0 : Int) + 1 ≤ h 238 1 by omega), (show 1 ≤ h 238 98 by omega), (show h 238 67 ≤ 9998 by omega), (show ((1 ≤ h 238 (43 + (h 238 74).toNat) ∧ h 238 102 < h 238 7) ∨ (h 238 (43 + (h 238 74).toNat) ≤ 0 ∧ h 238 74 - h 238 106 ≤ h 238 3)) by rw [show 43 + (h 238 74).toNat = i14 by omega]; omega)⟩
                      exact I3 1 1 h ⟨rfl, (show (-1 ≤ 1 ∧ 1 ≤ 3) ∧ (0 ≤ 1 ∧ 1 ≤ 4) by omega), (laX.yes 0 (by decide) (by omega) cn33)⟩ (show ((4 : Int) + 1 - 1).toNat < ((4 : Int) + 1 - x2).toNat by omega)
                    ·
                      refine wi_iload_n (i := 2) (e := 0) (nx := 72) (r1 := 0) (r2 := 0) (r3 := 0) rfl rfl ?_
                      refine wi_istore_n (i := 1) (e := 0) (lo2 := [(1, vi 0), (0, .ref 236), (2, vi 0)]) (nx := 73) (r1 := 0) (r2 := 0) (r3 := 0) rfl rfl ?_
                      refine wr_iincL (i := 2) (n := 1) (v := 0) (1) ([(2, vi 1), (1, vi 0), (0, .ref 236)]) (nx := 76) (r1 := 0) (r2 := 0) (r3 := 0) rfl rfl (by decide) rfl ?_
                      refine wi_goto (nx := 79) (r1 := 4) (r2 := 0) (r3 := 0) rfl ?_
                      refine wp.lo (lo := [(0, .ref 236), (1, vi 0), (2, vi 1)]) ⟨rfl, rfl, rfl, trivial⟩ rfl ?_
                      have b31 := gi_b (lo := 0) (hi := 3) g 238 102 rfl
                      have b32 := gi_b (lo := 0) (hi := 3) g 238 7 rfl
                      have c34 : h 238 i14 = h 238 i14 := rfl
                      have cn33 : canL (h 238) 0 := ⟨(show (0 : Int) + 1 ≤ h 238 1 by omega), (show 1 ≤ h 238 98 by omega), (show h 238 67 ≤ 9998 by omega), (show ((1 ≤ h 238 (43 + (h 238 74).toNat) ∧ h 238 102 < h 238 7) ∨ (h 238 (43 + (h 238 74).toNat) ≤ 0 ∧ h 238 74 - h 238 106 ≤ h 238 3)) by rw [show 43 + (h 238 74).toNat = i14 by omega]; omega)⟩
                      exact I3 0 1 h ⟨rfl, (show (-1 ≤ 0 ∧ 0 ≤ 3) ∧ (0 ≤ 1 ∧ 1 ≤ 4) by omega), (laX.yes 0 (by decide) (by omega) cn33)⟩ (show ((4 : Int) + 1 - 1).toNat < ((4 : Int) + 1 - x2).toNat by omega)
                  ·
                    rw [q28]
                    refine wr_V (k0 := 236) (rest := [vi (h 238 74)]) (as := [.ref 236, vi 2, vi 0]) (nx := 68) (r1 := 258) (r2 := 2) (r3 := 11) rfl rfl rfl (of_decide_eq_true rfl) rfl rfl (by decide) rfl rfl (of_decide_eq_true rfl) (of_decide_eq_true rfl) ?_
                    refine wi_aload_n (i := 0) (x := 236) (nx := 1) (r1 := 0) (r2 := 0) (r3 := 0) rfl rfl ?_
                    refine wr_gr (k0 := 236) (x := 238) (nx := 4) (r1 := 11) (r2 := 13) (r3 := 0) rfl rfl (by decide) rfl ⟨rfl, rfl⟩ rfl ?_
                    refine wi_bipush (n := 74) (nx := 6) (r1 := 0) (r2 := 0) (r3 := 0) rfl (by decide) ?_
                    refine wi_bipush (n := 6) (nx := 8) (r1 := 0) (r2 := 0) (r3 := 0) rfl (by decide) ?_
                    refine wi_iload_n (i := 1) (e := 2) (nx := 9) (r1 := 0) (r2 := 0) (r3 := 0) rfl rfl ?_
                    refine wr_mulL (12) (nx := 10) (r1 := 0) (r2 := 0) (r3 := 0) rfl (by decide) ?_
                    refine wr_addL (86) (nx := 11) (r1 := 0) (r2 := 0) (r3 := 0) rfl (by decide) ?_
                    refine wi_iload_n (i := 2) (e := 0) (nx := 12) (r1 := 0) (r2 := 0) (r3 := 0) rfl rfl ?_
                    refine wr_addL (86) (nx := 13) (r1 := 0) (r2 := 0) (r3 := 0) rfl (by decide) ?_
                    have b29 := gi_b (lo := 0) (hi := 11) g 238 86 rfl
                    refine wr_ia (k0 := 238) (a := 86) (f := 86) (x := h 238 86) (nx := 14) (r1 := 0) (r2 := 0) (r3 := 0) rfl (by decide) rfl (by omega) (by omega) (by decide) rfl ?_
                    refine wi_ireturn (nx := 15) (r1 := 0) (r2 := 0) (r3 := 0) rfl rfl ?_
                    refine wk_i ?_
                    refine wi_icmp (cd := .ge) (nx := 71) (r1 := 73) (r2 := 0) (r3 := 0) rfl (by omega) (by omega) (fun (q30 : (h 238 86) ≤ (h 238 74)) => ?_) (fun (q30 : ¬ ((h 238 86) ≤ (h 238 74))) => ?_)
                    ·
                      refine wr_iincL (i := 2) (n := 1) (v := 0) (1) ([(2, vi 1), (0, .ref 236), (1, vi 2)]) (nx := 76) (r1 := 0) (r2 := 0) (r3 := 0) rfl rfl (by decide) rfl ?_
                      refine wi_goto (nx := 79) (r1 := 4) (r2 := 0) (r3 := 0) rfl ?_
                      refine wp.lo (lo := [(0, .ref 236), (1, vi 2), (2, vi 1)]) ⟨rfl, rfl, rfl, trivial⟩ rfl ?_
                      have b31 := gi_b (lo := 0) (hi := 3) g 238 102 rfl
                      have b32 := gi_b (lo := 0) (hi := 3) g 238 7 rfl
                      have c34 : h 238 i14 = h 238 i14 := rfl
                      have cn33 : canL (h 238) 0 := ⟨(show (0 : Int) + 1 ≤ h 238 1 by omega), (show 1 ≤ h 238 98 by omega), (show h 238 67 ≤ 9998 by omega), (show ((1 ≤ h 238 (43 + (h 238 74).toNat) ∧ h 238 102 < h 238 7) ∨ (h 238 (43 + (h 238 74).toNat) ≤ 0 ∧ h 238 74 - h 238 106 ≤ h 238 3)) by rw [show 43 + (h 238 74).toNat = i14 by omega]; omega)⟩
                      exact I3 2 1 h ⟨rfl, (show (-1 ≤ 2 ∧ 2 ≤ 3) ∧ (0 ≤ 1 ∧ 1 ≤ 4) by omega), (laX.yes 0 (by decide) (by omega) cn33)⟩ (show ((4 : Int) + 1 - 1).toNat < ((4 : Int) + 1 - x2).toNat by omega)
                    ·
                      refine wi_iload_n (i := 2) (e := 0) (nx := 72) (r1 := 0) (r2 := 0) (r3 := 0) rfl rfl ?_
                      refine wi_istore_n (i := 1) (e := 0) (lo2 := [(1, vi 0), (0, .ref 236), (2, vi 0)]) (nx := 73) (r1 := 0) (r2 := 0) (r3 := 0) rfl rfl ?_
                      refine wr_iincL (i := 2) (n := 1) (v := 0) (1) ([(2, vi 1), (1, vi 0), (0, .ref 236)]) (nx := 76) (r1 := 0) (r2 := 0) (r3 := 0) rfl rfl (by decide) rfl ?_
                      refine wi_goto (nx := 79) (r1 := 4) (r2 := 0) (r3 := 0) rfl ?_
                      refine wp.lo (lo := [(0, .ref 236), (1, vi 0), (2, vi 1)]) ⟨rfl, rfl, rfl, trivial⟩ rfl ?_
                      have b31 := gi_b (lo := 0) (hi := 3) g 238 102 rfl
                      have b32 := gi_b (lo := 0) (hi := 3) g 238 7 rfl
                      have c34 : h 238 i14 = h 238 i14 := rfl
                      have cn33 : canL (h 238) 0 := ⟨(show (0 : Int) + 1 ≤ h 238 1 by omega), (show 1 ≤ h 238 98 by omega), (show h 238 67 ≤ 9998 by omega), (show ((1 ≤ h 238 (43 + (h 238 74).toNat) ∧ h 238 102 < h 238 7) ∨ (h 238 (43 + (h 238 74).toNat) ≤ 0 ∧ h 238 74 - h 238 106 ≤ h 238 3)) by rw [show 43 + (h 238 74).toNat = i14 by omega]; omega)⟩
                      exact I3 0 1 h ⟨rfl, (show (-1 ≤ 0 ∧ 0 ≤ 3) ∧ (0 ≤ 1 ∧ 1 ≤ 4) by omega), (laX.yes 0 (by decide) (by omega) cn33)⟩ (show ((4 : Int) + 1 - 1).toNat < ((4 : Int) + 1 - x2).toNat by omega)
                  ·
                    rw [q28]
                    refine wr_V (k0 := 236) (rest := [vi (h 238 74)]) (as := [.ref 236, vi 3, vi 0]) (nx := 68) (r1 := 258) (r2 := 2) (r3 := 11) rfl rfl rfl (of_decide_eq_true rfl) rfl rfl (by decide) rfl rfl (of_decide_eq_true rfl) (of_decide_eq_true rfl) ?_
                    refine wi_aload_n (i := 0) (x := 236) (nx := 1) (r1 := 0) (r2 := 0) (r3 := 0) rfl rfl ?_
                    refine wr_gr (k0 := 236) (x := 238) (nx := 4) (r1 := 11) (r2 := 13) (r3 := 0) rfl rfl (by decide) rfl ⟨rfl, rfl⟩ rfl ?_
                    refine wi_bipush (n := 74) (nx := 6) (r1 := 0) (r2 := 0) (r3 := 0) rfl (by decide) ?_
                    refine wi_bipush (n := 6) (nx := 8) (r1 := 0) (r2 := 0) (r3 := 0) rfl (by decide) ?_
                    refine wi_iload_n (i := 1) (e := 3) (nx := 9) (r1 := 0) (r2 := 0) (r3 := 0) rfl rfl ?_
                    refine wr_mulL (18) (nx := 10) (r1 := 0) (r2 := 0) (r3 := 0) rfl (by decide) ?_
                    refine wr_addL (92) (nx := 11) (r1 := 0) (r2 := 0) (r3 := 0) rfl (by decide) ?_
                    refine wi_iload_n (i := 2) (e := 0) (nx := 12) (r1 := 0) (r2 := 0) (r3 := 0) rfl rfl ?_
                    refine wr_addL (92) (nx := 13) (r1 := 0) (r2 := 0) (r3 := 0) rfl (by decide) ?_
                    have b29 := gi_b (lo := 0) (hi := 11) g 238 92 rfl
                    refine wr_ia (k0 := 238) (a := 92) (f := 92) (x := h 238 92) (nx := 14) (r1 := 0) (r2 := 0) (r3 := 0) rfl (by decide) rfl (by omega) (by omega) (by decide) rfl ?_
                    refine wi_ireturn (nx := 15) (r1 := 0) (r2 := 0) (r3 := 0) rfl rfl ?_
                    refine wk_i ?_
                    refine wi_icmp (cd := .ge) (nx := 71) (r1 := 73) (r2 := 0) (r3 := 0) rfl (by omega) (by omega) (fun (q30 : (h 238 92) ≤ (h 238 74)) => ?_) (fun (q30 : ¬ ((h 238 92) ≤ (h 238 74))) => ?_)
                    ·
                      refine wr_iincL (i := 2) (n := 1) (v := 0) (1) ([(2, vi 1), (0, .ref 236), (1, vi 3)]) (nx := 76) (r1 := 0) (r2 := 0) (r3 := 0) rfl rfl (by decide) rfl ?_
                      refine wi_goto (nx := 79) (r1 := 4) (r2 := 0) (r3 := 0) rfl ?_
                      refine wp.lo (lo := [(0, .ref 236), (1, vi 3), (2, vi 1)]) ⟨rfl, rfl, rfl, trivial⟩ rfl ?_
                      have b31 := gi_b (lo := 0) (hi := 3) g 238 102 rfl
                      have b32 := gi_b (lo := 0) (hi := 3) g 238 7 rfl
                      have c34 : h 238 i14 = h 238 i14 := rfl
                      have cn33 : canL (h 238) 0 := ⟨(show (0 : Int) + 1 ≤ h 238 1 by omega), (show 1 ≤ h 238 98 by omega), (show h 238 67 ≤ 9998 by omega), (show ((1 ≤ h 238 (43 + (h 238 74).toNat) ∧ h 238 102 < h 238 7) ∨ (h 238 (43 + (h 238 74).toNat) ≤ 0 ∧ h 238 74 - h 238 106 ≤ h 238 3)) by rw [show 43 + (h 238 74).toNat = i14 by omega]; omega)⟩
                      exact I3 3 1 h ⟨rfl, (show (-1 ≤ 3 ∧ 3 ≤ 3) ∧ (0 ≤ 1 ∧ 1 ≤ 4) by omega), (laX.yes 0 (by decide) (by omega) cn33)⟩ (show ((4 : Int) + 1 - 1).toNat < ((4 : Int) + 1 - x2).toNat by omega)
                    ·
                      refine wi_iload_n (i := 2) (e := 0) (nx := 72) (r1 := 0) (r2 := 0) (r3 := 0) rfl rfl ?_
                      refine wi_istore_n (i := 1) (e := 0) (lo2 := [(1, vi 0), (0, .ref 236), (2, vi 0)]) (nx := 73) (r1 := 0) (r2 := 0) (r3 := 0) rfl rfl ?_
                      refine wr_iincL (i := 2) (n := 1) (v := 0) (1) ([(2, vi 1), (1, vi 0), (0, .ref 236)]) (nx := 76) (r1 := 0) (r2 := 0) (r3 := 0) rfl rfl (by decide) rfl ?_
                      refine wi_goto (nx := 79) (r1 := 4) (r2 := 0) (r3 := 0) rfl ?_
                      refine wp.lo (lo := [(0, .ref 236), (1, vi 0), (2, vi 1)]) ⟨rfl, rfl, rfl, trivial⟩ rfl ?_
                      have b31 := gi_b (lo := 0) (hi := 3) g 238 102 rfl
                      have b32 := gi_b (lo := 0) (hi := 3) g 238 7 rfl
                      have c34 : h 238 i14 = h 238 i14 := rfl
                      have cn33 : canL (h 238) 0 := ⟨(show (0 : Int) + 1 ≤ h 238 1 by omega), (show 1 ≤ h 238 98 by omega), (show h 238 67 ≤ 9998 by omega), (show ((1 ≤ h 238 (43 + (h 238 74).toNat) ∧ h 238 102 < h 238 7) ∨ (h 238 (43 + (h 238 74).toNat) ≤ 0 ∧ h 238 74 - h 238 106 ≤ h 238 3)) by rw [show 43 + (h 238 74).toNat = i14 by omega]; omega)⟩
                      exact I3 0 1 h ⟨rfl, (show (-1 ≤ 0 ∧ 0 ≤ 3) ∧ (0 ≤ 1 ∧ 1 ≤ 4) by omega), (laX.yes 0 (by decide) (by omega) cn33)⟩ (show ((4 : Int) + 1 - 1).toNat < ((4 : Int) + 1 - x2).toNat by omega)
              ·
                refine wi_iload_n (i := 2) (e := 0) (nx := 50) (r1 := 0) (r2 := 0) (r3 := 0) rfl rfl ?_
                refine wi_ireturn (nx := 51) (r1 := 0) (r2 := 0) (r3 := 0) rfl rfl ?_
                have b27 := gi_b (lo := 0) (hi := 3) g 238 102 rfl
                have b28 := gi_b (lo := 0) (hi := 3) g 238 7 rfl
                have c30 : h 238 i14 = h 238 i14 := rfl
                have cn29 : canL (h 238) 0 := ⟨(show (0 : Int) + 1 ≤ h 238 1 by omega), (show 1 ≤ h 238 98 by omega), (show h 238 67 ≤ 9998 by omega), (show ((1 ≤ h 238 (43 + (h 238 74).toNat) ∧ h 238 102 < h 238 7) ∨ (h 238 (43 + (h 238 74).toNat) ≤ 0 ∧ h 238 74 - h 238 106 ≤ h 238 3)) by rw [show 43 + (h 238 74).toNat = i14 by omega]; omega)⟩
                exact k 0 (by omega) (laX.yes 0 (by decide) (by omega) cn29)
          ·
            refine wi_aload_n (i := 0) (x := 236) (nx := 47) (r1 := 0) (r2 := 0) (r3 := 0) rfl rfl ?_
            refine wr_gr (k0 := 236) (x := 238) (nx := 50) (r1 := 11) (r2 := 13) (r3 := 0) rfl rfl (by decide) rfl ⟨rfl, rfl⟩ rfl ?_
            refine wi_bipush (n := 102) (nx := 52) (r1 := 0) (r2 := 0) (r3 := 0) rfl (by decide) ?_
            have b17 := gi_b (lo := 0) (hi := 3) g 238 102 rfl
            refine wr_ia (k0 := 238) (a := 102) (f := 102) (x := h 238 102) (nx := 53) (r1 := 0) (r2 := 0) (r3 := 0) rfl (by decide) rfl (by omega) (by omega) (by decide) rfl ?_
            refine wi_aload_n (i := 0) (x := 236) (nx := 54) (r1 := 0) (r2 := 0) (r3 := 0) rfl rfl ?_
            refine wr_gr (k0 := 236) (x := 238) (nx := 57) (r1 := 11) (r2 := 13) (r3 := 0) rfl rfl (by decide) rfl ⟨rfl, rfl⟩ rfl ?_
            refine wi_bipush (n := 7) (nx := 59) (r1 := 0) (r2 := 0) (r3 := 0) rfl (by decide) ?_
            have b18 := gi_b (lo := 0) (hi := 3) g 238 7 rfl
            refine wr_ia (k0 := 238) (a := 7) (f := 7) (x := h 238 7) (nx := 60) (r1 := 0) (r2 := 0) (r3 := 0) rfl (by decide) rfl (by omega) (by omega) (by decide) rfl ?_
            refine wi_icmp (cd := .ge) (nx := 63) (r1 := 67) (r2 := 0) (r3 := 0) rfl (by omega) (by omega) (fun (q19 : (h 238 7) ≤ (h 238 102)) => ?_) (fun (q19 : ¬ ((h 238 7) ≤ (h 238 102))) => ?_)
            ·
              refine wi_iconst (n := 0) (nx := 68) (r1 := 0) (r2 := 0) (r3 := 0) rfl ?_
              refine wi_goto (nx := 71) (r1 := 94) (r2 := 0) (r3 := 0) rfl ?_
              refine wi_zreturn (nx := 95) (r1 := 0) (r2 := 0) (r3 := 0) rfl rfl (by omega) ?_
              refine wk_i ?_
              refine wi_if (cd := .ne) (nx := 22) (r1 := 25) (r2 := 0) (r3 := 0) rfl (by omega) (fun (q20 : 0 ≠ 0) => by exfalso; omega) (fun (q20 : ¬ (0 ≠ 0)) => ?_)
              refine wi_goto (nx := 25) (r1 := 73) (r2 := 0) (r3 := 0) rfl ?_
              refine wr_iincL (i := 2) (n := 1) (v := 0) (1) ([(2, vi 1), (0, .ref 236), (1, vi x1)]) (nx := 76) (r1 := 0) (r2 := 0) (r3 := 0) rfl rfl (by decide) rfl ?_
              refine wi_goto (nx := 79) (r1 := 4) (r2 := 0) (r3 := 0) rfl ?_
              refine wp.lo (lo := [(0, .ref 236), (1, vi x1), (2, vi 1)]) ⟨rfl, rfl, rfl, trivial⟩ rfl ?_
              have b21 := gi_b (lo := 0) (hi := 12) g 238 106 rfl
              have b22 := gi_b (lo := 0) (hi := 999) g 238 3 rfl
              have c24 : h 238 i14 = h 238 i14 := rfl
              have cn23 : ¬ canL (h 238) 0 := fun c => by
                have c1 : (0 : Int) + 1 ≤ h 238 1 := c.1
                have c2 : 1 ≤ h 238 98 := c.2.1
                have c3 : h 238 67 ≤ 9998 := c.2.2.1
                have c4 : ((1 ≤ h 238 (43 + (h 238 74).toNat) ∧ h 238 102 < h 238 7) ∨ (h 238 (43 + (h 238 74).toNat) ≤ 0 ∧ h 238 74 - h 238 106 ≤ h 238 3)) := c.2.2.2
                rw [show 43 + (h 238 74).toNat = i14 by omega] at c4; omega
              exact I3 x1 1 h ⟨rfl, (show (-1 ≤ x1 ∧ x1 ≤ 3) ∧ (0 ≤ 1 ∧ 1 ≤ 4) by omega), (laX.no X3_0 (by omega) 0 (by omega) cn23)⟩ (show ((4 : Int) + 1 - 1).toNat < ((4 : Int) + 1 - x2).toNat by omega)
            ·
              refine wi_iconst (n := 1) (nx := 64) (r1 := 0) (r2 := 0) (r3 := 0) rfl ?_
              refine wi_goto (nx := 67) (r1 := 94) (r2 := 0) (r3 := 0) rfl ?_
              refine wi_zreturn (nx := 95) (r1 := 0) (r2 := 0) (r3 := 0) rfl rfl (by omega) ?_
              refine wk_i ?_
              refine wi_if (cd := .ne) (nx := 22) (r1 := 25) (r2 := 0) (r3 := 0) rfl (by omega) (fun (q20 : 1 ≠ 0) => ?_) (fun (q20 : ¬ (1 ≠ 0)) => by exfalso; omega)
              refine wi_aload_n (i := 0) (x := 236) (nx := 26) (r1 := 0) (r2 := 0) (r3 := 0) rfl rfl ?_
              refine wr_gr (k0 := 236) (x := 238) (nx := 29) (r1 := 11) (r2 := 13) (r3 := 0) rfl rfl (by decide) rfl ⟨rfl, rfl⟩ rfl ?_
              refine wi_bipush (n := 31) (nx := 31) (r1 := 0) (r2 := 0) (r3 := 0) rfl (by decide) ?_
              refine wi_aload_n (i := 0) (x := 236) (nx := 32) (r1 := 0) (r2 := 0) (r3 := 0) rfl rfl ?_
              refine wi_iload_n (i := 2) (e := 0) (nx := 33) (r1 := 0) (r2 := 0) (r3 := 0) rfl rfl ?_
              refine wi_iconst (n := 0) (nx := 34) (r1 := 0) (r2 := 0) (r3 := 0) rfl ?_
              refine wr_V (k0 := 236) (rest := [vi 31, .ref 238]) (as := [.ref 236, vi 0, vi 0]) (nx := 37) (r1 := 258) (r2 := 2) (r3 := 11) rfl rfl rfl (of_decide_eq_true rfl) rfl rfl (by decide) rfl rfl (of_decide_eq_true rfl) (of_decide_eq_true rfl) ?_
              refine wi_aload_n (i := 0) (x := 236) (nx := 1) (r1 := 0) (r2 := 0) (r3 := 0) rfl rfl ?_
              refine wr_gr (k0 := 236) (x := 238) (nx := 4) (r1 := 11) (r2 := 13) (r3 := 0) rfl rfl (by decide) rfl ⟨rfl, rfl⟩ rfl ?_
              refine wi_bipush (n := 74) (nx := 6) (r1 := 0) (r2 := 0) (r3 := 0) rfl (by decide) ?_
              refine wi_bipush (n := 6) (nx := 8) (r1 := 0) (r2 := 0) (r3 := 0) rfl (by decide) ?_
              refine wi_iload_n (i := 1) (e := 0) (nx := 9) (r1 := 0) (r2 := 0) (r3 := 0) rfl rfl ?_
              refine wr_mulL (0) (nx := 10) (r1 := 0) (r2 := 0) (r3 := 0) rfl (by decide) ?_
              refine wr_addL (74) (nx := 11) (r1 := 0) (r2 := 0) (r3 := 0) rfl (by decide) ?_
              refine wi_iload_n (i := 2) (e := 0) (nx := 12) (r1 := 0) (r2 := 0) (r3 := 0) rfl rfl ?_
              refine wr_addL (74) (nx := 13) (r1 := 0) (r2 := 0) (r3 := 0) rfl (by decide) ?_
              refine wr_ia (k0 := 238) (a := 74) (f := 74) (x := h 238 74) (nx := 14) (r1 := 0) (r2 := 0) (r3 := 0) rfl (by decide) rfl (by omega) (by omega) (by decide) rfl ?_
              refine wi_ireturn (nx := 15) (r1 := 0) (r2 := 0) (r3 := 0) rfl rfl ?_
              refine wk_i ?_
              refine wr_add (nx := 38) (r1 := 0) (r2 := 0) (r3 := 0) rfl (fun e21 (fe21 : e21 = 31 + (h 238 74)) => ?_)
              obtain ⟨i22, ei22⟩ : ∃ q : Nat, e21 = (q : Int) := ⟨(e21).toNat, by omega⟩
              have b23 := gi_b (lo := 0) (hi := 4) g 238 i22 (gi_rg 31 12 (fun _ => rfl) (by decide +kernel) (by omega))
              refine wr_ia (k0 := 238) (a := e21) (f := i22) (x := h 238 i22) (nx := 39) (r1 := 0) (r2 := 0) (r3 := 0) rfl (by decide) rfl (by omega) (by omega) (by decide) rfl ?_
              refine wi_aload_n (i := 0) (x := 236) (nx := 40) (r1 := 0) (r2 := 0) (r3 := 0) rfl rfl ?_
              refine wr_gr (k0 := 236) (x := 238) (nx := 43) (r1 := 11) (r2 := 13) (r3 := 0) rfl rfl (by decide) rfl ⟨rfl, rfl⟩ rfl ?_
              refine wi_bipush (n := 68) (nx := 45) (r1 := 0) (r2 := 0) (r3 := 0) rfl (by decide) ?_
              have b24 := gi_b (lo := -1) (hi := 4) g 238 68 rfl
              refine wr_ia (k0 := 238) (a := 68) (f := 68) (x := h 238 68) (nx := 46) (r1 := 0) (r2 := 0) (r3 := 0) rfl (by decide) rfl (by omega) (by omega) (by decide) rfl ?_
              refine wi_icmp (cd := .ne) (nx := 49) (r1 := 51) (r2 := 0) (r3 := 0) rfl (by omega) (by omega) (fun (q25 : (h 238 i22) ≠ (h 238 68)) => ?_) (fun (q25 : ¬ ((h 238 i22) ≠ (h 238 68))) => ?_)
              ·
                refine wi_iload_n (i := 1) (e := x1) (nx := 52) (r1 := 0) (r2 := 0) (r3 := 0) rfl rfl ?_
                refine wi_iconst (n := (-1)) (nx := 53) (r1 := 0) (r2 := 0) (r3 := 0) rfl ?_
                refine wi_icmp (cd := .eq) (nx := 56) (r1 := 71) (r2 := 0) (r3 := 0) rfl (by omega) (by omega) (fun (q26 : x1 = (-1)) => ?_) (fun (q26 : ¬ (x1 = (-1))) => ?_)
                ·
                  refine wi_iload_n (i := 2) (e := 0) (nx := 72) (r1 := 0) (r2 := 0) (r3 := 0) rfl rfl ?_
                  refine wi_istore_n (i := 1) (e := 0) (lo2 := [(1, vi 0), (0, .ref 236), (2, vi 0)]) (nx := 73) (r1 := 0) (r2 := 0) (r3 := 0) rfl rfl ?_
                  refine wr_iincL (i := 2) (n := 1) (v := 0) (1) ([(2, vi 1), (1, vi 0), (0, .ref 236)]) (nx := 76) (r1 := 0) (r2 := 0) (r3 := 0) rfl rfl (by decide) rfl ?_
                  refine wi_goto (nx := 79) (r1 := 4) (r2 := 0) (r3 := 0) rfl ?_
                  refine wp.lo (lo := [(0, .ref 236), (1, vi 0), (2, vi 1)]) ⟨rfl, rfl, rfl, trivial⟩ rfl ?_
                  have b27 := gi_b (lo := 0) (hi := 12) g 238 106 rfl
                  have b28 := gi_b (lo := 0) (hi := 999) g 238 3 rfl
                  have c30 : h 238 i14 = h 238 i14 := rfl
                  have cn29 : canL (h 238) 0 := ⟨(show (0 : Int) + 1 ≤ h 238 1 by omega), (show 1 ≤ h 238 98 by omega), (show h 238 67 ≤ 9998 by omega), (show ((1 ≤ h 238 (43 + (h 238 74).toNat) ∧ h 238 102 < h 238 7) ∨ (h 238 (43 + (h 238 74).toNat) ≤ 0 ∧ h 238 74 - h 238 106 ≤ h 238 3)) by rw [show 43 + (h 238 74).toNat = i14 by omega]; omega)⟩
                  exact I3 0 1 h ⟨rfl, (show (-1 ≤ 0 ∧ 0 ≤ 3) ∧ (0 ≤ 1 ∧ 1 ≤ 4) by omega), (laX.yes 0 (by decide) (by omega) cn29)⟩ (show ((4 : Int) + 1 - 1).toNat < ((4 : Int) + 1 - x2).toNat by omega)
                ·
                  refine wi_aload_n (i := 0) (x := 236) (nx := 57) (r1 := 0) (r2 := 0) (r3 := 0) rfl rfl ?_
                  refine wi_iload_n (i := 2) (e := 0) (nx := 58) (r1 := 0) (r2 := 0) (r3 := 0) rfl rfl ?_
                  refine wi_iconst (n := 0) (nx := 59) (r1 := 0) (r2 := 0) (r3 := 0) rfl ?_
                  refine wr_V (k0 := 236) (rest := []) (as := [.ref 236, vi 0, vi 0]) (nx := 62) (r1 := 258) (r2 := 2) (r3 := 11) rfl rfl rfl (of_decide_eq_true rfl) rfl rfl (by decide) rfl rfl (of_decide_eq_true rfl) (of_decide_eq_true rfl) ?_
                  refine wi_aload_n (i := 0) (x := 236) (nx := 1) (r1 := 0) (r2 := 0) (r3 := 0) rfl rfl ?_
                  refine wr_gr (k0 := 236) (x := 238) (nx := 4) (r1 := 11) (r2 := 13) (r3 := 0) rfl rfl (by decide) rfl ⟨rfl, rfl⟩ rfl ?_
                  refine wi_bipush (n := 74) (nx := 6) (r1 := 0) (r2 := 0) (r3 := 0) rfl (by decide) ?_
                  refine wi_bipush (n := 6) (nx := 8) (r1 := 0) (r2 := 0) (r3 := 0) rfl (by decide) ?_
                  refine wi_iload_n (i := 1) (e := 0) (nx := 9) (r1 := 0) (r2 := 0) (r3 := 0) rfl rfl ?_
                  refine wr_mulL (0) (nx := 10) (r1 := 0) (r2 := 0) (r3 := 0) rfl (by decide) ?_
                  refine wr_addL (74) (nx := 11) (r1 := 0) (r2 := 0) (r3 := 0) rfl (by decide) ?_
                  refine wi_iload_n (i := 2) (e := 0) (nx := 12) (r1 := 0) (r2 := 0) (r3 := 0) rfl rfl ?_
                  refine wr_addL (74) (nx := 13) (r1 := 0) (r2 := 0) (r3 := 0) rfl (by decide) ?_
                  refine wr_ia (k0 := 238) (a := 74) (f := 74) (x := h 238 74) (nx := 14) (r1 := 0) (r2 := 0) (r3 := 0) rfl (by decide) rfl (by omega) (by omega) (by decide) rfl ?_
                  refine wi_ireturn (nx := 15) (r1 := 0) (r2 := 0) (r3 := 0) rfl rfl ?_
                  refine wk_i ?_
                  refine wi_aload_n (i := 0) (x := 236) (nx := 63) (r1 := 0) (r2 := 0) (r3 := 0) rfl rfl ?_
                  refine wi_iload_n (i := 1) (e := x1) (nx := 64) (r1 := 0) (r2 := 0) (r3 := 0) rfl rfl ?_
                  refine wi_iconst (n := 0) (nx := 65) (r1 := 0) (r2 := 0) (r3 := 0) rfl ?_
                  rcases (show x1 = 0 ∨ x1 = 1 ∨ x1 = 2 ∨ x1 = 3 by omega) with q27 | q27 | q27 | q27
                  ·
                    rw [q27]
                    refine wr_V (k0 := 236) (rest := [vi (h 238 74)]) (as := [.ref 236, vi 0, vi 0]) (nx := 68) (r1 := 258) (r2 := 2) (r3 := 11) rfl rfl rfl (of_decide_eq_true rfl) rfl rfl (by decide) rfl rfl (of_decide_eq_true rfl) (of_decide_eq_true rfl) ?_
                    refine wi_aload_n (i := 0) (x := 236) (nx := 1) (r1 := 0) (r2 := 0) (r3 := 0) rfl rfl ?_
                    refine wr_gr (k0 := 236) (x := 238) (nx := 4) (r1 := 11) (r2 := 13) (r3 := 0) rfl rfl (by decide) rfl ⟨rfl, rfl⟩ rfl ?_
                    refine wi_bipush (n := 74) (nx := 6) (r1 := 0) (r2 := 0) (r3 := 0) rfl (by decide) ?_
                    refine wi_bipush (n := 6) (nx := 8) (r1 := 0) (r2 := 0) (r3 := 0) rfl (by decide) ?_
                    refine wi_iload_n (i := 1) (e := 0) (nx := 9) (r1 := 0) (r2 := 0) (r3 := 0) rfl rfl ?_
                    refine wr_mulL (0) (nx := 10) (r1 := 0) (r2 := 0) (r3 := 0) rfl (by decide) ?_
                    refine wr_addL (74) (nx := 11) (r1 := 0) (r2 := 0) (r3 := 0) rfl (by decide) ?_
                    refine wi_iload_n (i := 2) (e := 0) (nx := 12) (r1 := 0) (r2 := 0) (r3 := 0) rfl rfl ?_
                    refine wr_addL (74) (nx := 13) (r1 := 0) (r2 := 0) (r3 := 0) rfl (by decide) ?_
                    refine wr_ia (k0 := 238) (a := 74) (f := 74) (x := h 238 74) (nx := 14) (r1 := 0) (r2 := 0) (r3 := 0) rfl (by decide) rfl (by omega) (by omega) (by decide) rfl ?_
                    refine wi_ireturn (nx := 15) (r1 := 0) (r2 := 0) (r3 := 0) rfl rfl ?_
                    refine wk_i ?_
                    refine wi_icmp (cd := .ge) (nx := 71) (r1 := 73) (r2 := 0) (r3 := 0) rfl (by omega) (by omega) (fun (q28 : (h 238 74) ≤ (h 238 74)) => ?_) (fun (q28 : ¬ ((h 238 74) ≤ (h 238 74))) => by exfalso; omega)
                    refine wr_iincL (i := 2) (n := 1) (v := 0) (1) ([(2, vi 1), (0, .ref 236), (1, vi 0)]) (nx := 76) (r1 := 0) (r2 := 0) (r3 := 0) rfl rfl (by decide) rfl ?_
                    refine wi_goto (nx := 79) (r1 := 4) (r2 := 0) (r3 := 0) rfl ?_
                    refine wp.lo (lo := [(0, .ref 236), (1, vi 0), (2, vi 1)]) ⟨rfl, rfl, rfl, trivial⟩ rfl ?_
                    have b29 := gi_b (lo := 0) (hi := 12) g 238 106 rfl
                    have b30 := gi_b (lo := 0) (hi := 999) g 238 3 rfl
                    have c32 : h 238 i14 = h 238 i14 := rfl
                    have cn31 : canL (h 238) 0 := ⟨(show (0 : Int) + 1 ≤ h 238 1 by omega), (show 1 ≤ h 238 98 by omega), (show h 238 67 ≤ 9998 by omega), (show ((1 ≤ h 238 (43 + (h 238 74).toNat) ∧ h 238 102 < h 238 7) ∨ (h 238 (43 + (h 238 74).toNat) ≤ 0 ∧ h 238 74 - h 238 106 ≤ h 238 3)) by rw [show 43 + (h 238 74).toNat = i14 by omega]; omega)⟩
                    exact I3 0 1 h ⟨rfl, (show (-1 ≤ 0 ∧ 0 ≤ 3) ∧ (0 ≤ 1 ∧ 1 ≤ 4) by omega), (laX.yes 0 (by decide) (by omega) cn31)⟩ (show ((4 : Int) + 1 - 1).toNat < ((4 : Int) + 1 - x2).toNat by omega)
                  ·
                    rw [q27]
                    refine wr_V (k0 := 236) (rest := [vi (h 238 74)]) (as := [.ref 236, vi 1, vi 0]) (nx := 68) (r1 := 258) (r2 := 2) (r3 := 11) rfl rfl rfl (of_decide_eq_true rfl) rfl rfl (by decide) rfl rfl (of_decide_eq_true rfl) (of_decide_eq_true rfl) ?_
                    refine wi_aload_n (i := 0) (x := 236) (nx := 1) (r1 := 0) (r2 := 0) (r3 := 0) rfl rfl ?_
                    refine wr_gr (k0 := 236) (x := 238) (nx := 4) (r1 := 11) (r2 := 13) (r3 := 0) rfl rfl (by decide) rfl ⟨rfl, rfl⟩ rfl ?_
                    refine wi_bipush (n := 74) (nx := 6) (r1 := 0) (r2 := 0) (r3 := 0) rfl (by decide) ?_
                    refine wi_bipush (n := 6) (nx := 8) (r1 := 0) (r2 := 0) (r3 := 0) rfl (by decide) ?_
                    refine wi_iload_n (i := 1) (e := 1) (nx := 9) (r1 := 0) (r2 := 0) (r3 := 0) rfl rfl ?_
                    refine wr_mulL (6) (nx := 10) (r1 := 0) (r2 := 0) (r3 := 0) rfl (by decide) ?_
                    refine wr_addL (80) (nx := 11) (r1 := 0) (r2 := 0) (r3 := 0) rfl (by decide) ?_
                    refine wi_iload_n (i := 2) (e := 0) (nx := 12) (r1 := 0) (r2 := 0) (r3 := 0) rfl rfl ?_
                    refine wr_addL (80) (nx := 13) (r1 := 0) (r2 := 0) (r3 := 0) rfl (by decide) ?_
                    have b28 := gi_b (lo := 0) (hi := 11) g 238 80 rfl
                    refine wr_ia (k0 := 238) (a := 80) (f := 80) (x := h 238 80) (nx := 14) (r1 := 0) (r2 := 0) (r3 := 0) rfl (by decide) rfl (by omega) (by omega) (by decide) rfl ?_
                    refine wi_ireturn (nx := 15) (r1 := 0) (r2 := 0) (r3 := 0) rfl rfl ?_
                    refine wk_i ?_
                    refine wi_icmp (cd := .ge) (nx := 71) (r1 := 73) (r2 := 0) (r3 := 0) rfl (by omega) (by omega) (fun (q29 : (h 238 80) ≤ (h 238 74)) => ?_) (fun (q29 : ¬ ((h 238 80) ≤ (h 238 74))) => ?_)
                    ·
                      refine wr_iincL (i := 2) (n := 1) (v := 0) (1) ([(2, vi 1), (0, .ref 236), (1, vi 1)]) (nx := 76) (r1 := 0) (r2 := 0) (r3 := 0) rfl rfl (by decide) rfl ?_
                      refine wi_goto (nx := 79) (r1 := 4) (r2 := 0) (r3 := 0) rfl ?_
                      refine wp.lo (lo := [(0, .ref 236), (1, vi 1), (2, vi 1)]) ⟨rfl, rfl, rfl, trivial⟩ rfl ?_
                      have b30 := gi_b (lo := 0) (hi := 12) g 238 106 rfl
                      have b31 := gi_b (lo := 0) (hi := 999) g 238 3 rfl
                      have c33 : h 238 i14 = h 238 i14 := rfl
                      have cn32 : canL (h 238) 0 := ⟨(show (0 : Int) + 1 ≤ h 238 1 by omega), (show 1 ≤ h 238 98 by omega), (show h 238 67 ≤ 9998 by omega), (show ((1 ≤ h 238 (43 + (h 238 74).toNat) ∧ h 238 102 < h 238 7) ∨ (h 238 (43 + (h 238 74).toNat) ≤ 0 ∧ h 238 74 - h 238 106 ≤ h 238 3)) by rw [show 43 + (h 238 74).toNat = i14 by omega]; omega)⟩
                      exact I3 1 1 h ⟨rfl, (show (-1 ≤ 1 ∧ 1 ≤ 3) ∧ (0 ≤ 1 ∧ 1 ≤ 4) by omega), (laX.yes 0 (by decide) (by omega) cn32)⟩ (show ((4 : Int) + 1 - 1).toNat < ((4 : Int) + 1 - x2).toNat by omega)
                    ·
                      refine wi_iload_n (i := 2) (e := 0) (nx := 72) (r1 := 0) (r2 := 0) (r3 := 0) rfl rfl ?_
                      refine wi_istore_n (i := 1) (e := 0) (lo2 := [(1, vi 0), (0, .ref 236), (2, vi 0)]) (nx := 73) (r1 := 0) (r2 := 0) (r3 := 0) rfl rfl ?_
                      refine wr_iincL (i := 2) (n := 1) (v := 0) (1) ([(2, vi 1), (1, vi 0), (0, .ref 236)]) (nx := 76) (r1 := 0) (r2 := 0) (r3 := 0) rfl rfl (by decide) rfl ?_
                      refine wi_goto (nx := 79) (r1 := 4) (r2 := 0) (r3 := 0) rfl ?_
                      refine wp.lo (lo := [(0, .ref 236), (1, vi 0), (2, vi 1)]) ⟨rfl, rfl, rfl, trivial⟩ rfl ?_
                      have b30 := gi_b (lo := 0) (hi := 12) g 238 106 rfl
                      have b31 := gi_b (lo := 0) (hi := 999) g 238 3 rfl
                      have c33 : h 238 i14 = h 238 i14 := rfl
                      have cn32 : canL (h 238) 0 := ⟨(show (0 : Int) + 1 ≤ h 238 1 by omega), (show 1 ≤ h 238 98 by omega), (show h 238 67 ≤ 9998 by omega), (show ((1 ≤ h 238 (43 + (h 238 74).toNat) ∧ h 238 102 < h 238 7) ∨ (h 238 (43 + (h 238 74).toNat) ≤ 0 ∧ h 238 74 - h 238 106 ≤ h 238 3)) by rw [show 43 + (h 238 74).toNat = i14 by omega]; omega)⟩
                      exact I3 0 1 h ⟨rfl, (show (-1 ≤ 0 ∧ 0 ≤ 3) ∧ (0 ≤ 1 ∧ 1 ≤ 4) by omega), (laX.yes 0 (by decide) (by omega) cn32)⟩ (show ((4 : Int) + 1 - 1).toNat < ((4 : Int) + 1 - x2).toNat by omega)
                  ·
                    rw [q27]
                    refine wr_V (k0 := 236) (rest := [vi (h 238 74)]) (as := [.ref 236, vi 2, vi 0]) (nx := 68) (r1 := 258) (r2 := 2) (r3 := 11) rfl rfl rfl (of_decide_eq_true rfl) rfl rfl (by decide) rfl rfl (of_decide_eq_true rfl) (of_decide_eq_true rfl) ?_
                    refine wi_aload_n (i := 0) (x := 236) (nx := 1) (r1 := 0) (r2 := 0) (r3 := 0) rfl rfl ?_
                    refine wr_gr (k0 := 236) (x := 238) (nx := 4) (r1 := 11) (r2 := 13) (r3 := 0) rfl rfl (by decide) rfl ⟨rfl, rfl⟩ rfl ?_
                    refine wi_bipush (n := 74) (nx := 6) (r1 := 0) (r2 := 0) (r3 := 0) rfl (by decide) ?_
                    refine wi_bipush (n := 6) (nx := 8) (r1 := 0) (r2 := 0) (r3 := 0) rfl (by decide) ?_
                    refine wi_iload_n (i := 1) (e := 2) (nx := 9) (r1 := 0) (r2 := 0) (r3 := 0) rfl rfl ?_
                    refine wr_mulL (12) (nx := 10) (r1 := 0) (r2 := 0) (r3 := 0) rfl (by decide) ?_
                    refine wr_addL (86) (nx := 11) (r1 := 0) (r2 := 0) (r3 := 0) rfl (by decide) ?_
                    refine wi_iload_n (i := 2) (e := 0) (nx := 12) (r1 := 0) (r2 := 0) (r3 := 0) rfl rfl ?_
                    refine wr_addL (86) (nx := 13) (r1 := 0) (r2 := 0) (r3 := 0) rfl (by decide) ?_
                    have b28 := gi_b (lo := 0) (hi := 11) g 238 86 rfl
                    refine wr_ia (k0 := 238) (a := 86) (f := 86) (x := h 238 86) (nx := 14) (r1 := 0) (r2 := 0) (r3 := 0) rfl (by decide) rfl (by omega) (by omega) (by decide) rfl ?_
                    refine wi_ireturn (nx := 15) (r1 := 0) (r2 := 0) (r3 := 0) rfl rfl ?_
                    refine wk_i ?_
                    refine wi_icmp (cd := .ge) (nx := 71) (r1 := 73) (r2 := 0) (r3 := 0) rfl (by omega) (by omega) (fun (q29 : (h 238 86) ≤ (h 238 74)) => ?_) (fun (q29 : ¬ ((h 238 86) ≤ (h 238 74))) => ?_)
                    ·
                      refine wr_iincL (i := 2) (n := 1) (v := 0) (1) ([(2, vi 1), (0, .ref 236), (1, vi 2)]) (nx := 76) (r1 := 0) (r2 := 0) (r3 := 0) rfl rfl (by decide) rfl ?_
                      refine wi_goto (nx := 79) (r1 := 4) (r2 := 0) (r3 := 0) rfl ?_
                      refine wp.lo (lo := [(0, .ref 236), (1, vi 2), (2, vi 1)]) ⟨rfl, rfl, rfl, trivial⟩ rfl ?_
                      have b30 := gi_b (lo := 0) (hi := 12) g 238 106 rfl
                      have b31 := gi_b (lo := 0) (hi := 999) g 238 3 rfl
                      have c33 : h 238 i14 = h 238 i14 := rfl
                      have cn32 : canL (h 238) 0 := ⟨(show (0 : Int) + 1 ≤ h 238 1 by omega), (show 1 ≤ h 238 98 by omega), (show h 238 67 ≤ 9998 by omega), (show ((1 ≤ h 238 (43 + (h 238 74).toNat) ∧ h 238 102 < h 238 7) ∨ (h 238 (43 + (h 238 74).toNat) ≤ 0 ∧ h 238 74 - h 238 106 ≤ h 238 3)) by rw [show 43 + (h 238 74).toNat = i14 by omega]; omega)⟩
                      exact I3 2 1 h ⟨rfl, (show (-1 ≤ 2 ∧ 2 ≤ 3) ∧ (0 ≤ 1 ∧ 1 ≤ 4) by omega), (laX.yes 0 (by decide) (by omega) cn32)⟩ (show ((4 : Int) + 1 - 1).toNat < ((4 : Int) + 1 - x2).toNat by omega)
                    ·
                      refine wi_iload_n (i := 2) (e := 0) (nx := 72) (r1 := 0) (r2 := 0) (r3 := 0) rfl rfl ?_
                      refine wi_istore_n (i := 1) (e := 0) (lo2 := [(1, vi 0), (0, .ref 236), (2, vi 0)]) (nx := 73) (r1 := 0) (r2 := 0) (r3 := 0) rfl rfl ?_
                      refine wr_iincL (i := 2) (n := 1) (v := 0) (1) ([(2, vi 1), (1, vi 0), (0, .ref 236)]) (nx := 76) (r1 := 0) (r2 := 0) (r3 := 0) rfl rfl (by decide) rfl ?_
                      refine wi_goto (nx := 79) (r1 := 4) (r2 := 0) (r3 := 0) rfl ?_
                      refine wp.lo (lo := [(0, .ref 236), (1, vi 0), (2, vi 1)]) ⟨rfl, rfl, rfl, trivial⟩ rfl ?_
                      have b30 := gi_b (lo := 0) (hi := 12) g 238 106 rfl
                      have b31 := gi_b (lo := 0) (hi := 999) g 238 3 rfl
                      have c33 : h 238 i14 = h 238 i14 := rfl
                      have cn32 : canL (h 238) 0 := ⟨(show (0 : Int) + 1 ≤ h 238 1 by omega), (show 1 ≤ h 238 98 by omega), (show h 238 67 ≤ 9998 by omega), (show ((1 ≤ h 238 (43 + (h 238 74).toNat) ∧ h 238 102 < h 238 7) ∨ (h 238 (43 + (h 238 74).toNat) ≤ 0 ∧ h 238 74 - h 238 106 ≤ h 238 3)) by rw [show 43 + (h 238 74).toNat = i14 by omega]; omega)⟩
                      exact I3 0 1 h ⟨rfl, (show (-1 ≤ 0 ∧ 0 ≤ 3) ∧ (0 ≤ 1 ∧ 1 ≤ 4) by omega), (laX.yes 0 (by decide) (by omega) cn32)⟩ (show ((4 : Int) + 1 - 1).toNat < ((4 : Int) + 1 - x2).toNat by omega)
                  ·
                    rw [q27]
                    refine wr_V (k0 := 236) (rest := [vi (h 238 74)]) (as := [.ref 236, vi 3, vi 0]) (nx := 68) (r1 := 258) (r2 := 2) (r3 := 11) rfl rfl rfl (of_decide_eq_true rfl) rfl rfl (by decide) rfl rfl (of_decide_eq_true rfl) (of_decide_eq_true rfl) ?_
                    refine wi_aload_n (i := 0) (x := 236) (nx := 1) (r1 := 0) (r2 := 0) (r3 := 0) rfl rfl ?_
                    refine wr_gr (k0 := 236) (x := 238) (nx := 4) (r1 := 11) (r2 := 13) (r3 := 0) rfl rfl (by decide) rfl ⟨rfl, rfl⟩ rfl ?_
                    refine wi_bipush (n := 74) (nx := 6) (r1 := 0) (r2 := 0) (r3 := 0) rfl (by decide) ?_
                    refine wi_bipush (n := 6) (nx := 8) (r1 := 0) (r2 := 0) (r3 := 0) rfl (by decide) ?_
                    refine wi_iload_n (i := 1) (e := 3) (nx := 9) (r1 := 0) (r2 := 0) (r3 := 0) rfl rfl ?_
                    refine wr_mulL (18) (nx := 10) (r1 := 0) (r2 := 0) (r3 := 0) rfl (by decide) ?_
                    refine wr_addL (92) (nx := 11) (r1 := 0) (r2 := 0) (r3 := 0) rfl (by decide) ?_
                    refine wi_iload_n (i := 2) (e := 0) (nx := 12) (r1 := 0) (r2 := 0) (r3 := 0) rfl rfl ?_
                    refine wr_addL (92) (nx := 13) (r1 := 0) (r2 := 0) (r3 := 0) rfl (by decide) ?_
                    have b28 := gi_b (lo := 0) (hi := 11) g 238 92 rfl
                    refine wr_ia (k0 := 238) (a := 92) (f := 92) (x := h 238 92) (nx := 14) (r1 := 0) (r2 := 0) (r3 := 0) rfl (by decide) rfl (by omega) (by omega) (by decide) rfl ?_
                    refine wi_ireturn (nx := 15) (r1 := 0) (r2 := 0) (r3 := 0) rfl rfl ?_
                    refine wk_i ?_
                    refine wi_icmp (cd := .ge) (nx := 71) (r1 := 73) (r2 := 0) (r3 := 0) rfl (by omega) (by omega) (fun (q29 : (h 238 92) ≤ (h 238 74)) => ?_) (fun (q29 : ¬ ((h 238 92) ≤ (h 238 74))) => ?_)
                    ·
                      refine wr_iincL (i := 2) (n := 1) (v := 0) (1) ([(2, vi 1), (0, .ref 236), (1, vi 3)]) (nx := 76) (r1 := 0) (r2 := 0) (r3 := 0) rfl rfl (by decide) rfl ?_
                      refine wi_goto (nx := 79) (r1 := 4) (r2 := 0) (r3 := 0) rfl ?_
                      refine wp.lo (lo := [(0, .ref 236), (1, vi 3), (2, vi 1)]) ⟨rfl, rfl, rfl, trivial⟩ rfl ?_
                      have b30 := gi_b (lo := 0) (hi := 12) g 238 106 rfl
                      have b31 := gi_b (lo := 0) (hi := 999) g 238 3 rfl
                      have c33 : h 238 i14 = h 238 i14 := rfl
                      have cn32 : canL (h 238) 0 := ⟨(show (0 : Int) + 1 ≤ h 238 1 by omega), (show 1 ≤ h 238 98 by omega), (show h 238 67 ≤ 9998 by omega), (show ((1 ≤ h 238 (43 + (h 238 74).toNat) ∧ h 238 102 < h 238 7) ∨ (h 238 (43 + (h 238 74).toNat) ≤ 0 ∧ h 238 74 - h 238 106 ≤ h 238 3)) by rw [show 43 + (h 238 74).toNat = i14 by omega]; omega)⟩
                      exact I3 3 1 h ⟨rfl, (show (-1 ≤ 3 ∧ 3 ≤ 3) ∧ (0 ≤ 1 ∧ 1 ≤ 4) by omega), (laX.yes 0 (by decide) (by omega) cn32)⟩ (show ((4 : Int) + 1 - 1).toNat < ((4 : Int) + 1 - x2).toNat by omega)
                    ·
                      refine wi_iload_n (i := 2) (e := 0) (nx := 72) (r1 := 0) (r2 := 0) (r3 := 0) rfl rfl ?_
                      refine wi_istore_n (i := 1) (e := 0) (lo2 := [(1, vi 0), (0, .ref 236), (2, vi 0)]) (nx := 73) (r1 := 0) (r2 := 0) (r3 := 0) rfl rfl ?_
                      refine wr_iincL (i := 2) (n := 1) (v := 0) (1) ([(2, vi 1), (1, vi 0), (0, .ref 236)]) (nx := 76) (r1 := 0) (r2 := 0) (r3 := 0) rfl rfl (by decide) rfl ?_
                      refine wi_goto (nx := 79) (r1 := 4) (r2 := 0) (r3 := 0) rfl ?_
                      refine wp.lo (lo := [(0, .ref 236), (1, vi 0), (2, vi 1)]) ⟨rfl, rfl, rfl, trivial⟩ rfl ?_
                      have b30 := gi_b (lo := 0) (hi := 12) g 238 106 rfl
                      have b31 := gi_b (lo := 0) (hi := 999) g 238 3 rfl
                      have c33 : h 238 i14 = h 238 i14 := rfl
                      have cn32 : canL (h 238) 0 := ⟨(show (0 : Int) + 1 ≤ h 238 1 by omega), (show 1 ≤ h 238 98 by omega), (show h 238 67 ≤ 9998 by omega), (show ((1 ≤ h 238 (43 + (h 238 74).toNat) ∧ h 238 102 < h 238 7) ∨ (h 238 (43 + (h 238 74).toNat) ≤ 0 ∧ h 238 74 - h 238 106 ≤ h 238 3)) by rw [show 43 + (h 238 74).toNat = i14 by omega]; omega)⟩
                      exact I3 0 1 h ⟨rfl, (show (-1 ≤ 0 ∧ 0 ≤ 3) ∧ (0 ≤ 1 ∧ 1 ≤ 4) by omega), (laX.yes 0 (by decide) (by omega) cn32)⟩ (show ((4 : Int) + 1 - 1).toNat < ((4 : Int) + 1 - x2).toNat by omega)
              ·
                refine wi_iload_n (i := 2) (e := 0) (nx := 50) (r1 := 0) (r2 := 0) (r3 := 0) rfl rfl ?_
                refine wi_ireturn (nx := 51) (r1 := 0) (r2 := 0) (r3 := 0) rfl rfl ?_
                have b26 := gi_b (lo := 0) (hi := 12) g 238 106 rfl
                have b27 := gi_b (lo := 0) (hi := 999) g 238 3 rfl
                have c29 : h 238 i14 = h 238 i14 := rfl
                have cn28 : canL (h 238) 0 := ⟨(show (0 : Int) + 1 ≤ h 238 1 by omega), (show 1 ≤ h 238 98 by omega), (show h 238 67 ≤ 9998 by omega), (show ((1 ≤ h 238 (43 + (h 238 74).toNat) ∧ h 238 102 < h 238 7) ∨ (h 238 (43 + (h 238 74).toNat) ≤ 0 ∧ h 238 74 - h 238 106 ≤ h 238 3)) by rw [show 43 + (h 238 74).toNat = i14 by omega]; omega)⟩
                exact k 0 (by omega) (laX.yes 0 (by decide) (by omega) cn28)
        ·
          refine wi_iconst (n := 0) (nx := 26) (r1 := 0) (r2 := 0) (r3 := 0) rfl ?_
          refine wi_zreturn (nx := 27) (r1 := 0) (r2 := 0) (r3 := 0) rfl rfl (by omega) ?_
          refine wk_i ?_
          refine wi_if (cd := .ne) (nx := 22) (r1 := 25) (r2 := 0) (r3 := 0) rfl (by omega) (fun (q12 : 0 ≠ 0) => by exfalso; omega) (fun (q12 : ¬ (0 ≠ 0)) => ?_)
          refine wi_goto (nx := 25) (r1 := 73) (r2 := 0) (r3 := 0) rfl ?_
          refine wr_iincL (i := 2) (n := 1) (v := 0) (1) ([(2, vi 1), (0, .ref 236), (1, vi x1)]) (nx := 76) (r1 := 0) (r2 := 0) (r3 := 0) rfl rfl (by decide) rfl ?_
          refine wi_goto (nx := 79) (r1 := 4) (r2 := 0) (r3 := 0) rfl ?_
          refine wp.lo (lo := [(0, .ref 236), (1, vi x1), (2, vi 1)]) ⟨rfl, rfl, rfl, trivial⟩ rfl ?_
          have b13 := gi_b (lo := 0) (hi := 3) g 238 102 rfl
          have b14 := gi_b (lo := 0) (hi := 3) g 238 7 rfl
          have b15 := gi_b (lo := 0) (hi := 11) g 238 74 rfl
          have b16 := gi_b (lo := 0) (hi := 12) g 238 106 rfl
          have b17 := gi_b (lo := 0) (hi := 999) g 238 3 rfl
          have cn18 : ¬ canL (h 238) 0 := fun c => by
            have c1 : (0 : Int) + 1 ≤ h 238 1 := c.1
            have c2 : 1 ≤ h 238 98 := c.2.1
            have c3 : h 238 67 ≤ 9998 := c.2.2.1
            have c4 : ((1 ≤ h 238 (43 + (h 238 74).toNat) ∧ h 238 102 < h 238 7) ∨ (h 238 (43 + (h 238 74).toNat) ≤ 0 ∧ h 238 74 - h 238 106 ≤ h 238 3)) := c.2.2.2
            clear c4; omega
          exact I3 x1 1 h ⟨rfl, (show (-1 ≤ x1 ∧ x1 ≤ 3) ∧ (0 ≤ 1 ∧ 1 ≤ 4) by omega), (laX.no X3_0 (by omega) 0 (by omega) cn18)⟩ (show ((4 : Int) + 1 - 1).toNat < ((4 : Int) + 1 - x2).toNat by omega)
    ·
      rw [q7]
      refine wr_V (k0 := 236) (rest := []) (as := [.ref 236, vi 1]) (nx := 19) (r1 := 267) (r2 := 1) (r3 := 11) rfl rfl rfl (of_decide_eq_true rfl) rfl rfl (by decide) rfl rfl (of_decide_eq_true rfl) (of_decide_eq_true rfl) ?_
      refine wi_aload_n (i := 0) (x := 236) (nx := 1) (r1 := 0) (r2 := 0) (r3 := 0) rfl rfl ?_
      refine wr_gr (k0 := 236) (x := 238) (nx := 4) (r1 := 11) (r2 := 13) (r3 := 0) rfl rfl (by decide) rfl ⟨rfl, rfl⟩ rfl ?_
      refine wi_bipush (n := 98) (nx := 6) (r1 := 0) (r2 := 0) (r3 := 0) rfl (by decide) ?_
      refine wi_iload_n (i := 1) (e := 1) (nx := 7) (r1 := 0) (r2 := 0) (r3 := 0) rfl rfl ?_
      refine wr_addL (99) (nx := 8) (r1 := 0) (r2 := 0) (r3 := 0) rfl (by decide) ?_
      have b8 := gi_b (lo := 0) (hi := 6) g 238 99 rfl
      refine wr_ia (k0 := 238) (a := 99) (f := 99) (x := h 238 99) (nx := 9) (r1 := 0) (r2 := 0) (r3 := 0) rfl (by decide) rfl (by omega) (by omega) (by decide) rfl ?_
      refine wi_if (cd := .eq) (nx := 12) (r1 := 25) (r2 := 0) (r3 := 0) rfl (by omega) (fun (q9 : (h 238 99) = 0) => ?_) (fun (q9 : ¬ ((h 238 99) = 0)) => ?_)
      ·
        refine wi_iconst (n := 0) (nx := 26) (r1 := 0) (r2 := 0) (r3 := 0) rfl ?_
        refine wi_zreturn (nx := 27) (r1 := 0) (r2 := 0) (r3 := 0) rfl rfl (by omega) ?_
        refine wk_i ?_
        refine wi_if (cd := .ne) (nx := 22) (r1 := 25) (r2 := 0) (r3 := 0) rfl (by omega) (fun (q10 : 0 ≠ 0) => by exfalso; omega) (fun (q10 : ¬ (0 ≠ 0)) => ?_)
        refine wi_goto (nx := 25) (r1 := 73) (r2 := 0) (r3 := 0) rfl ?_
        refine wr_iincL (i := 2) (n := 1) (v := 1) (2) ([(2, vi 2), (0, .ref 236), (1, vi x1)]) (nx := 76) (r1 := 0) (r2 := 0) (r3 := 0) rfl rfl (by decide) rfl ?_
        refine wi_goto (nx := 79) (r1 := 4) (r2 := 0) (r3 := 0) rfl ?_
        refine wp.lo (lo := [(0, .ref 236), (1, vi x1), (2, vi 2)]) ⟨rfl, rfl, rfl, trivial⟩ rfl ?_
        have b11 := gi_b (lo := 0) (hi := 9999) g 238 67 rfl
        have b12 := gi_b (lo := 0) (hi := 3) g 238 102 rfl
        have b13 := gi_b (lo := 0) (hi := 3) g 238 7 rfl
        have b14 := gi_b (lo := 0) (hi := 11) g 238 80 rfl
        have b15 := gi_b (lo := 0) (hi := 12) g 238 106 rfl
        have b16 := gi_b (lo := 0) (hi := 999) g 238 3 rfl
        have cn17 : ¬ canL (h 238) 1 := fun c => by
          have c1 : (1 : Int) + 1 ≤ h 238 1 := c.1
          have c2 : 1 ≤ h 238 99 := c.2.1
          have c3 : h 238 67 ≤ 9998 := c.2.2.1
          have c4 : ((1 ≤ h 238 (43 + (h 238 80).toNat) ∧ h 238 102 < h 238 7) ∨ (h 238 (43 + (h 238 80).toNat) ≤ 0 ∧ h 238 80 - h 238 106 ≤ h 238 3)) := c.2.2.2
          clear c4; omega
        exact I3 x1 2 h ⟨rfl, (show (-1 ≤ x1 ∧ x1 ≤ 3) ∧ (0 ≤ 2 ∧ 2 ≤ 4) by omega), (laX.no X3_0 (by omega) 1 (by omega) cn17)⟩ (show ((4 : Int) + 1 - 2).toNat < ((4 : Int) + 1 - x2).toNat by omega)
      ·
        refine wi_aload_n (i := 0) (x := 236) (nx := 13) (r1 := 0) (r2 := 0) (r3 := 0) rfl rfl ?_
        refine wr_gr (k0 := 236) (x := 238) (nx := 16) (r1 := 11) (r2 := 13) (r3 := 0) rfl rfl (by decide) rfl ⟨rfl, rfl⟩ rfl ?_
        refine wi_bipush (n := 67) (nx := 18) (r1 := 0) (r2 := 0) (r3 := 0) rfl (by decide) ?_
        have b10 := gi_b (lo := 0) (hi := 9999) g 238 67 rfl
        refine wr_ia (k0 := 238) (a := 67) (f := 67) (x := h 238 67) (nx := 19) (r1 := 0) (r2 := 0) (r3 := 0) rfl (by decide) rfl (by omega) (by omega) (by decide) rfl ?_
        refine wi_sipush (n := 9999) (nx := 22) (r1 := 0) (r2 := 0) (r3 := 0) rfl (by decide) ?_
        refine wi_icmp (cd := .ne) (nx := 25) (r1 := 27) (r2 := 0) (r3 := 0) rfl (by omega) (by omega) (fun (q11 : (h 238 67) ≠ 9999) => ?_) (fun (q11 : ¬ ((h 238 67) ≠ 9999)) => ?_)
        ·
          refine wi_aload_n (i := 0) (x := 236) (nx := 28) (r1 := 0) (r2 := 0) (r3 := 0) rfl rfl ?_
          refine wi_iload_n (i := 1) (e := 1) (nx := 29) (r1 := 0) (r2 := 0) (r3 := 0) rfl rfl ?_
          refine wi_iconst (n := 0) (nx := 30) (r1 := 0) (r2 := 0) (r3 := 0) rfl ?_
          refine wr_V (k0 := 236) (rest := []) (as := [.ref 236, vi 1, vi 0]) (nx := 33) (r1 := 258) (r2 := 2) (r3 := 11) rfl rfl rfl (of_decide_eq_true rfl) rfl rfl (by decide) rfl rfl (of_decide_eq_true rfl) (of_decide_eq_true rfl) ?_
          refine wi_aload_n (i := 0) (x := 236) (nx := 1) (r1 := 0) (r2 := 0) (r3 := 0) rfl rfl ?_
          refine wr_gr (k0 := 236) (x := 238) (nx := 4) (r1 := 11) (r2 := 13) (r3 := 0) rfl rfl (by decide) rfl ⟨rfl, rfl⟩ rfl ?_
          refine wi_bipush (n := 74) (nx := 6) (r1 := 0) (r2 := 0) (r3 := 0) rfl (by decide) ?_
          refine wi_bipush (n := 6) (nx := 8) (r1 := 0) (r2 := 0) (r3 := 0) rfl (by decide) ?_
          refine wi_iload_n (i := 1) (e := 1) (nx := 9) (r1 := 0) (r2 := 0) (r3 := 0) rfl rfl ?_
          refine wr_mulL (6) (nx := 10) (r1 := 0) (r2 := 0) (r3 := 0) rfl (by decide) ?_
          refine wr_addL (80) (nx := 11) (r1 := 0) (r2 := 0) (r3 := 0) rfl (by decide) ?_
          refine wi_iload_n (i := 2) (e := 0) (nx := 12) (r1 := 0) (r2 := 0) (r3 := 0) rfl rfl ?_
          refine wr_addL (80) (nx := 13) (r1 := 0) (r2 := 0) (r3 := 0) rfl (by decide) ?_
          have b12 := gi_b (lo := 0) (hi := 11) g 238 80 rfl
          refine wr_ia (k0 := 238) (a := 80) (f := 80) (x := h 238 80) (nx := 14) (r1 := 0) (r2 := 0) (r3 := 0) rfl (by decide) rfl (by omega) (by omega) (by decide) rfl ?_
          refine wi_ireturn (nx := 15) (r1 := 0) (r2 := 0) (r3 := 0) rfl rfl ?_
          refine wk_i ?_
          refine wi_istore_n (i := 2) (e := h 238 80) (lo2 := [(2, vi (h 238 80)), (0, .ref 236), (1, vi 1)]) (nx := 34) (r1 := 0) (r2 := 0) (r3 := 0) rfl rfl ?_
          refine wi_aload_n (i := 0) (x := 236) (nx := 35) (r1 := 0) (r2 := 0) (r3 := 0) rfl rfl ?_
          refine wr_gr (k0 := 236) (x := 238) (nx := 38) (r1 := 11) (r2 := 13) (r3 := 0) rfl rfl (by decide) rfl ⟨rfl, rfl⟩ rfl ?_
          refine wi_bipush (n := 43) (nx := 40) (r1 := 0) (r2 := 0) (r3 := 0) rfl (by decide) ?_
          refine wi_iload_n (i := 2) (e := h 238 80) (nx := 41) (r1 := 0) (r2 := 0) (r3 := 0) rfl rfl ?_
          refine wr_add (nx := 42) (r1 := 0) (r2 := 0) (r3 := 0) rfl (fun e13 (fe13 : e13 = 43 + (h 238 80)) => ?_)
          obtain ⟨i14, ei14⟩ : ∃ q : Nat, e13 = (q : Int) := ⟨(e13).toNat, by omega⟩
          have b15 := gi_b (lo := 0) (hi := 999) g 238 i14 (gi_rg 43 12 (fun _ => rfl) (by decide +kernel) (by omega))
          refine wr_ia (k0 := 238) (a := e13) (f := i14) (x := h 238 i14) (nx := 43) (r1 := 0) (r2 := 0) (r3 := 0) rfl (by decide) rfl (by omega) (by omega) (by decide) rfl ?_
          refine wi_if (cd := .le) (nx := 46) (r1 := 71) (r2 := 0) (r3 := 0) rfl (by omega) (fun (q16 : (h 238 i14) ≤ 0) => ?_) (fun (q16 : ¬ ((h 238 i14) ≤ 0)) => ?_)
          ·
            refine wi_iload_n (i := 2) (e := h 238 80) (nx := 72) (r1 := 0) (r2 := 0) (r3 := 0) rfl rfl ?_
            refine wi_aload_n (i := 0) (x := 236) (nx := 73) (r1 := 0) (r2 := 0) (r3 := 0) rfl rfl ?_
            refine wr_gr (k0 := 236) (x := 238) (nx := 76) (r1 := 11) (r2 := 13) (r3 := 0) rfl rfl (by decide) rfl ⟨rfl, rfl⟩ rfl ?_
            refine wi_bipush (n := 106) (nx := 78) (r1 := 0) (r2 := 0) (r3 := 0) rfl (by decide) ?_
            have b17 := gi_b (lo := 0) (hi := 12) g 238 106 rfl
            refine wr_ia (k0 := 238) (a := 106) (f := 106) (x := h 238 106) (nx := 79) (r1 := 0) (r2 := 0) (r3 := 0) rfl (by decide) rfl (by omega) (by omega) (by decide) rfl ?_
            refine wr_sub (nx := 80) (r1 := 0) (r2 := 0) (r3 := 0) rfl (fun e18 (fe18 : e18 = (h 238 80) - (h 238 106)) => ?_)
            refine wi_aload_n (i := 0) (x := 236) (nx := 81) (r1 := 0) (r2 := 0) (r3 := 0) rfl rfl ?_
            refine wr_gr (k0 := 236) (x := 238) (nx := 84) (r1 := 11) (r2 := 13) (r3 := 0) rfl rfl (by decide) rfl ⟨rfl, rfl⟩ rfl ?_
            refine wi_iconst (n := 3) (nx := 85) (r1 := 0) (r2 := 0) (r3 := 0) rfl ?_
            have b19 := gi_b (lo := 0) (hi := 999) g 238 3 rfl
            refine wr_ia (k0 := 238) (a := 3) (f := 3) (x := h 238 3) (nx := 86) (r1 := 0) (r2 := 0) (r3 := 0) rfl (by decide) rfl (by omega) (by omega) (by decide) rfl ?_
            refine wi_icmp (cd := .gt) (nx := 89) (r1 := 93) (r2 := 0) (r3 := 0) rfl (by omega) (by omega) (fun (q20 : (h 238 3) < e18) => ?_) (fun (q20 : ¬ ((h 238 3) < e18)) => ?_)
            ·
              refine wi_iconst (n := 0) (nx := 94) (r1 := 0) (r2 := 0) (r3 := 0) rfl ?_
              refine wi_zreturn (nx := 95) (r1 := 0) (r2 := 0) (r3 := 0) rfl rfl (by omega) ?_
              refine wk_i ?_
              refine wi_if (cd := .ne) (nx := 22) (r1 := 25) (r2 := 0) (r3 := 0) rfl (by omega) (fun (q21 : 0 ≠ 0) => by exfalso; omega) (fun (q21 : ¬ (0 ≠ 0)) => ?_)
              refine wi_goto (nx := 25) (r1 := 73) (r2 := 0) (r3 := 0) rfl ?_
              refine wr_iincL (i := 2) (n := 1) (v := 1) (2) ([(2, vi 2), (0, .ref 236), (1, vi x1)]) (nx := 76) (r1 := 0) (r2 := 0) (r3 := 0) rfl rfl (by decide) rfl ?_
              refine wi_goto (nx := 79) (r1 := 4) (r2 := 0) (r3 := 0) rfl ?_
              refine wp.lo (lo := [(0, .ref 236), (1, vi x1), (2, vi 2)]) ⟨rfl, rfl, rfl, trivial⟩ rfl ?_
              have b22 := gi_b (lo := 0) (hi := 3) g 238 102 rfl
              have b23 := gi_b (lo := 0) (hi := 3) g 238 7 rfl
              have c25 : h 238 i14 = h 238 i14 := rfl
              have cn24 : ¬ canL (h 238) 1 := fun c => by
                have c1 : (1 : Int) + 1 ≤ h 238 1 := c.1
                have c2 : 1 ≤ h 238 99 := c.2.1
                have c3 : h 238 67 ≤ 9998 := c.2.2.1
                have c4 : ((1 ≤ h 238 (43 + (h 238 80).toNat) ∧ h 238 102 < h 238 7) ∨ (h 238 (43 + (h 238 80).toNat) ≤ 0 ∧ h 238 80 - h 238 106 ≤ h 238 3)) := c.2.2.2
                rw [show 43 + (h 238 80).toNat = i14 by omega] at c4; omega
              exact I3 x1 2 h ⟨rfl, (show (-1 ≤ x1 ∧ x1 ≤ 3) ∧ (0 ≤ 2 ∧ 2 ≤ 4) by omega), (laX.no X3_0 (by omega) 1 (by omega) cn24)⟩ (show ((4 : Int) + 1 - 2).toNat < ((4 : Int) + 1 - x2).toNat by omega)
            ·
              refine wi_iconst (n := 1) (nx := 90) (r1 := 0) (r2 := 0) (r3 := 0) rfl ?_
              refine wi_goto (nx := 93) (r1 := 94) (r2 := 0) (r3 := 0) rfl ?_
              refine wi_zreturn (nx := 95) (r1 := 0) (r2 := 0) (r3 := 0) rfl rfl (by omega) ?_
              refine wk_i ?_
              refine wi_if (cd := .ne) (nx := 22) (r1 := 25) (r2 := 0) (r3 := 0) rfl (by omega) (fun (q21 : 1 ≠ 0) => ?_) (fun (q21 : ¬ (1 ≠ 0)) => by exfalso; omega)
              refine wi_aload_n (i := 0) (x := 236) (nx := 26) (r1 := 0) (r2 := 0) (r3 := 0) rfl rfl ?_
              refine wr_gr (k0 := 236) (x := 238) (nx := 29) (r1 := 11) (r2 := 13) (r3 := 0) rfl rfl (by decide) rfl ⟨rfl, rfl⟩ rfl ?_
              refine wi_bipush (n := 31) (nx := 31) (r1 := 0) (r2 := 0) (r3 := 0) rfl (by decide) ?_
              refine wi_aload_n (i := 0) (x := 236) (nx := 32) (r1 := 0) (r2 := 0) (r3 := 0) rfl rfl ?_
              refine wi_iload_n (i := 2) (e := 1) (nx := 33) (r1 := 0) (r2 := 0) (r3 := 0) rfl rfl ?_
              refine wi_iconst (n := 0) (nx := 34) (r1 := 0) (r2 := 0) (r3 := 0) rfl ?_
              refine wr_V (k0 := 236) (rest := [vi 31, .ref 238]) (as := [.ref 236, vi 1, vi 0]) (nx := 37) (r1 := 258) (r2 := 2) (r3 := 11) rfl rfl rfl (of_decide_eq_true rfl) rfl rfl (by decide) rfl rfl (of_decide_eq_true rfl) (of_decide_eq_true rfl) ?_
              refine wi_aload_n (i := 0) (x := 236) (nx := 1) (r1 := 0) (r2 := 0) (r3 := 0) rfl rfl ?_
              refine wr_gr (k0 := 236) (x := 238) (nx := 4) (r1 := 11) (r2 := 13) (r3 := 0) rfl rfl (by decide) rfl ⟨rfl, rfl⟩ rfl ?_
              refine wi_bipush (n := 74) (nx := 6) (r1 := 0) (r2 := 0) (r3 := 0) rfl (by decide) ?_
              refine wi_bipush (n := 6) (nx := 8) (r1 := 0) (r2 := 0) (r3 := 0) rfl (by decide) ?_
              refine wi_iload_n (i := 1) (e := 1) (nx := 9) (r1 := 0) (r2 := 0) (r3 := 0) rfl rfl ?_
              refine wr_mulL (6) (nx := 10) (r1 := 0) (r2 := 0) (r3 := 0) rfl (by decide) ?_
              refine wr_addL (80) (nx := 11) (r1 := 0) (r2 := 0) (r3 := 0) rfl (by decide) ?_
              refine wi_iload_n (i := 2) (e := 0) (nx := 12) (r1 := 0) (r2 := 0) (r3 := 0) rfl rfl ?_
              refine wr_addL (80) (nx := 13) (r1 := 0) (r2 := 0) (r3 := 0) rfl (by decide) ?_
              refine wr_ia (k0 := 238) (a := 80) (f := 80) (x := h 238 80) (nx := 14) (r1 := 0) (r2 := 0) (r3 := 0) rfl (by decide) rfl (by omega) (by omega) (by decide) rfl ?_
              refine wi_ireturn (nx := 15) (r1 := 0) (r2 := 0) (r3 := 0) rfl rfl ?_
              refine wk_i ?_
              refine wr_add (nx := 38) (r1 := 0) (r2 := 0) (r3 := 0) rfl (fun e22 (fe22 : e22 = 31 + (h 238 80)) => ?_)
              obtain ⟨i23, ei23⟩ : ∃ q : Nat, e22 = (q : Int) := ⟨(e22).toNat, by omega⟩
              have b24 := gi_b (lo := 0) (hi := 4) g 238 i23 (gi_rg 31 12 (fun _ => rfl) (by decide +kernel) (by omega))
              refine wr_ia (k0 := 238) (a := e22) (f := i23) (x := h 238 i23) (nx := 39) (r1 := 0) (r2 := 0) (r3 := 0) rfl (by decide) rfl (by omega) (by omega) (by decide) rfl ?_
              refine wi_aload_n (i := 0) (x := 236) (nx := 40) (r1 := 0) (r2 := 0) (r3 := 0) rfl rfl ?_
              refine wr_gr (k0 := 236) (x := 238) (nx := 43) (r1 := 11) (r2 := 13) (r3 := 0) rfl rfl (by decide) rfl ⟨rfl, rfl⟩ rfl ?_
              refine wi_bipush (n := 68) (nx := 45) (r1 := 0) (r2 := 0) (r3 := 0) rfl (by decide) ?_
              have b25 := gi_b (lo := -1) (hi := 4) g 238 68 rfl
              refine wr_ia (k0 := 238) (a := 68) (f := 68) (x := h 238 68) (nx := 46) (r1 := 0) (r2 := 0) (r3 := 0) rfl (by decide) rfl (by omega) (by omega) (by decide) rfl ?_
              refine wi_icmp (cd := .ne) (nx := 49) (r1 := 51) (r2 := 0) (r3 := 0) rfl (by omega) (by omega) (fun (q26 : (h 238 i23) ≠ (h 238 68)) => ?_) (fun (q26 : ¬ ((h 238 i23) ≠ (h 238 68))) => ?_)
              ·
                refine wi_iload_n (i := 1) (e := x1) (nx := 52) (r1 := 0) (r2 := 0) (r3 := 0) rfl rfl ?_
                refine wi_iconst (n := (-1)) (nx := 53) (r1 := 0) (r2 := 0) (r3 := 0) rfl ?_
                refine wi_icmp (cd := .eq) (nx := 56) (r1 := 71) (r2 := 0) (r3 := 0) rfl (by omega) (by omega) (fun (q27 : x1 = (-1)) => ?_) (fun (q27 : ¬ (x1 = (-1))) => ?_)
                ·
                  refine wi_iload_n (i := 2) (e := 1) (nx := 72) (r1 := 0) (r2 := 0) (r3 := 0) rfl rfl ?_
                  refine wi_istore_n (i := 1) (e := 1) (lo2 := [(1, vi 1), (0, .ref 236), (2, vi 1)]) (nx := 73) (r1 := 0) (r2 := 0) (r3 := 0) rfl rfl ?_
                  refine wr_iincL (i := 2) (n := 1) (v := 1) (2) ([(2, vi 2), (1, vi 1), (0, .ref 236)]) (nx := 76) (r1 := 0) (r2 := 0) (r3 := 0) rfl rfl (by decide) rfl ?_
                  refine wi_goto (nx := 79) (r1 := 4) (r2 := 0) (r3 := 0) rfl ?_
                  refine wp.lo (lo := [(0, .ref 236), (1, vi 1), (2, vi 2)]) ⟨rfl, rfl, rfl, trivial⟩ rfl ?_
                  have b28 := gi_b (lo := 0) (hi := 3) g 238 102 rfl
                  have b29 := gi_b (lo := 0) (hi := 3) g 238 7 rfl
                  have c31 : h 238 i14 = h 238 i14 := rfl
                  have cn30 : canL (h 238) 1 := ⟨(show (1 : Int) + 1 ≤ h 238 1 by omega), (show 1 ≤ h 238 99 by omega), (show h 238 67 ≤ 9998 by omega), (show ((1 ≤ h 238 (43 + (h 238 80).toNat) ∧ h 238 102 < h 238 7) ∨ (h 238 (43 + (h 238 80).toNat) ≤ 0 ∧ h 238 80 - h 238 106 ≤ h 238 3)) by rw [show 43 + (h 238 80).toNat = i14 by omega]; omega)⟩
                  exact I3 1 2 h ⟨rfl, (show (-1 ≤ 1 ∧ 1 ≤ 3) ∧ (0 ≤ 2 ∧ 2 ≤ 4) by omega), (laX.yes 1 (by decide) (by omega) cn30)⟩ (show ((4 : Int) + 1 - 2).toNat < ((4 : Int) + 1 - x2).toNat by omega)
                ·
                  refine wi_aload_n (i := 0) (x := 236) (nx := 57) (r1 := 0) (r2 := 0) (r3 := 0) rfl rfl ?_
                  refine wi_iload_n (i := 2) (e := 1) (nx := 58) (r1 := 0) (r2 := 0) (r3 := 0) rfl rfl ?_
                  refine wi_iconst (n := 0) (nx := 59) (r1 := 0) (r2 := 0) (r3 := 0) rfl ?_
                  refine wr_V (k0 := 236) (rest := []) (as := [.ref 236, vi 1, vi 0]) (nx := 62) (r1 := 258) (r2 := 2) (r3 := 11) rfl rfl rfl (of_decide_eq_true rfl) rfl rfl (by decide) rfl rfl (of_decide_eq_true rfl) (of_decide_eq_true rfl) ?_
                  refine wi_aload_n (i := 0) (x := 236) (nx := 1) (r1 := 0) (r2 := 0) (r3 := 0) rfl rfl ?_
                  refine wr_gr (k0 := 236) (x := 238) (nx := 4) (r1 := 11) (r2 := 13) (r3 := 0) rfl rfl (by decide) rfl ⟨rfl, rfl⟩ rfl ?_
                  refine wi_bipush (n := 74) (nx := 6) (r1 := 0) (r2 := 0) (r3 := 0) rfl (by decide) ?_
                  refine wi_bipush (n := 6) (nx := 8) (r1 := 0) (r2 := 0) (r3 := 0) rfl (by decide) ?_
                  refine wi_iload_n (i := 1) (e := 1) (nx := 9) (r1 := 0) (r2 := 0) (r3 := 0) rfl rfl ?_
                  refine wr_mulL (6) (nx := 10) (r1 := 0) (r2 := 0) (r3 := 0) rfl (by decide) ?_
                  refine wr_addL (80) (nx := 11) (r1 := 0) (r2 := 0) (r3 := 0) rfl (by decide) ?_
                  refine wi_iload_n (i := 2) (e := 0) (nx := 12) (r1 := 0) (r2 := 0) (r3 := 0) rfl rfl ?_
                  refine wr_addL (80) (nx := 13) (r1 := 0) (r2 := 0) (r3 := 0) rfl (by decide) ?_
                  refine wr_ia (k0 := 238) (a := 80) (f := 80) (x := h 238 80) (nx := 14) (r1 := 0) (r2 := 0) (r3 := 0) rfl (by decide) rfl (by omega) (by omega) (by decide) rfl ?_
                  refine wi_ireturn (nx := 15) (r1 := 0) (r2 := 0) (r3 := 0) rfl rfl ?_
                  refine wk_i ?_
                  refine wi_aload_n (i := 0) (x := 236) (nx := 63) (r1 := 0) (r2 := 0) (r3 := 0) rfl rfl ?_
                  refine wi_iload_n (i := 1) (e := x1) (nx := 64) (r1 := 0) (r2 := 0) (r3 := 0) rfl rfl ?_
                  refine wi_iconst (n := 0) (nx := 65) (r1 := 0) (r2 := 0) (r3 := 0) rfl ?_
                  rcases (show x1 = 0 ∨ x1 = 1 ∨ x1 = 2 ∨ x1 = 3 by omega) with q28 | q28 | q28 | q28
                  ·
                    rw [q28]
                    refine wr_V (k0 := 236) (rest := [vi (h 238 80)]) (as := [.ref 236, vi 0, vi 0]) (nx := 68) (r1 := 258) (r2 := 2) (r3 := 11) rfl rfl rfl (of_decide_eq_true rfl) rfl rfl (by decide) rfl rfl (of_decide_eq_true rfl) (of_decide_eq_true rfl) ?_
                    refine wi_aload_n (i := 0) (x := 236) (nx := 1) (r1 := 0) (r2 := 0) (r3 := 0) rfl rfl ?_
                    refine wr_gr (k0 := 236) (x := 238) (nx := 4) (r1 := 11) (r2 := 13) (r3 := 0) rfl rfl (by decide) rfl ⟨rfl, rfl⟩ rfl ?_
                    refine wi_bipush (n := 74) (nx := 6) (r1 := 0) (r2 := 0) (r3 := 0) rfl (by decide) ?_
                    refine wi_bipush (n := 6) (nx := 8) (r1 := 0) (r2 := 0) (r3 := 0) rfl (by decide) ?_
                    refine wi_iload_n (i := 1) (e := 0) (nx := 9) (r1 := 0) (r2 := 0) (r3 := 0) rfl rfl ?_
                    refine wr_mulL (0) (nx := 10) (r1 := 0) (r2 := 0) (r3 := 0) rfl (by decide) ?_
                    refine wr_addL (74) (nx := 11) (r1 := 0) (r2 := 0) (r3 := 0) rfl (by decide) ?_
                    refine wi_iload_n (i := 2) (e := 0) (nx := 12) (r1 := 0) (r2 := 0) (r3 := 0) rfl rfl ?_
                    refine wr_addL (74) (nx := 13) (r1 := 0) (r2 := 0) (r3 := 0) rfl (by decide) ?_
                    have b29 := gi_b (lo := 0) (hi := 11) g 238 74 rfl
                    refine wr_ia (k0 := 238) (a := 74) (f := 74) (x := h 238 74) (nx := 14) (r1 := 0) (r2 := 0) (r3 := 0) rfl (by decide) rfl (by omega) (by omega) (by decide) rfl ?_
                    refine wi_ireturn (nx := 15) (r1 := 0) (r2 := 0) (r3 := 0) rfl rfl ?_
                    refine wk_i ?_
                    refine wi_icmp (cd := .ge) (nx := 71) (r1 := 73) (r2 := 0) (r3 := 0) rfl (by omega) (by omega) (fun (q30 : (h 238 74) ≤ (h 238 80)) => ?_) (fun (q30 : ¬ ((h 238 74) ≤ (h 238 80))) => ?_)
                    ·
                      refine wr_iincL (i := 2) (n := 1) (v := 1) (2) ([(2, vi 2), (0, .ref 236), (1, vi 0)]) (nx := 76) (r1 := 0) (r2 := 0) (r3 := 0) rfl rfl (by decide) rfl ?_
                      refine wi_goto (nx := 79) (r1 := 4) (r2 := 0) (r3 := 0) rfl ?_
                      refine wp.lo (lo := [(0, .ref 236), (1, vi 0), (2, vi 2)]) ⟨rfl, rfl, rfl, trivial⟩ rfl ?_
                      have b31 := gi_b (lo := 0) (hi := 3) g 238 102 rfl
                      have b32 := gi_b (lo := 0) (hi := 3) g 238 7 rfl
                      have c34 : h 238 i14 = h 238 i14 := rfl
                      have cn33 : canL (h 238) 1 := ⟨(show (1 : Int) + 1 ≤ h 238 1 by omega), (show 1 ≤ h 238 99 by omega), (show h 238 67 ≤ 9998 by omega), (show ((1 ≤ h 238 (43 + (h 238 80).toNat) ∧ h 238 102 < h 238 7) ∨ (h 238 (43 + (h 238 80).toNat) ≤ 0 ∧ h 238 80 - h 238 106 ≤ h 238 3)) by rw [show 43 + (h 238 80).toNat = i14 by omega]; omega)⟩
                      exact I3 0 2 h ⟨rfl, (show (-1 ≤ 0 ∧ 0 ≤ 3) ∧ (0 ≤ 2 ∧ 2 ≤ 4) by omega), (laX.yes 1 (by decide) (by omega) cn33)⟩ (show ((4 : Int) + 1 - 2).toNat < ((4 : Int) + 1 - x2).toNat by omega)
                    ·
                      refine wi_iload_n (i := 2) (e := 1) (nx := 72) (r1 := 0) (r2 := 0) (r3 := 0) rfl rfl ?_
                      refine wi_istore_n (i := 1) (e := 1) (lo2 := [(1, vi 1), (0, .ref 236), (2, vi 1)]) (nx := 73) (r1 := 0) (r2 := 0) (r3 := 0) rfl rfl ?_
                      refine wr_iincL (i := 2) (n := 1) (v := 1) (2) ([(2, vi 2), (1, vi 1), (0, .ref 236)]) (nx := 76) (r1 := 0) (r2 := 0) (r3 := 0) rfl rfl (by decide) rfl ?_
                      refine wi_goto (nx := 79) (r1 := 4) (r2 := 0) (r3 := 0) rfl ?_
                      refine wp.lo (lo := [(0, .ref 236), (1, vi 1), (2, vi 2)]) ⟨rfl, rfl, rfl, trivial⟩ rfl ?_
                      have b31 := gi_b (lo := 0) (hi := 3) g 238 102 rfl
                      have b32 := gi_b (lo := 0) (hi := 3) g 238 7 rfl
                      have c34 : h 238 i14 = h 238 i14 := rfl
                      have cn33 : canL (h 238) 1 := ⟨(show (1 : Int) + 1 ≤ h 238 1 by omega), (show 1 ≤ h 238 99 by omega), (show h 238 67 ≤ 9998 by omega), (show ((1 ≤ h 238 (43 + (h 238 80).toNat) ∧ h 238 102 < h 238 7) ∨ (h 238 (43 + (h 238 80).toNat) ≤ 0 ∧ h 238 80 - h 238 106 ≤ h 238 3)) by rw [show 43 + (h 238 80).toNat = i14 by omega]; omega)⟩
                      exact I3 1 2 h ⟨rfl, (show (-1 ≤ 1 ∧ 1 ≤ 3) ∧ (0 ≤ 2 ∧ 2 ≤ 4) by omega), (laX.yes 1 (by decide) (by omega) cn33)⟩ (show ((4 : Int) + 1 - 2).toNat < ((4 : Int) + 1 - x2).toNat by omega)
                  ·
                    rw [q28]
                    refine wr_V (k0 := 236) (rest := [vi (h 238 80)]) (as := [.ref 236, vi 1, vi 0]) (nx := 68) (r1 := 258) (r2 := 2) (r3 := 11) rfl rfl rfl (of_decide_eq_true rfl) rfl rfl (by decide) rfl rfl (of_decide_eq_true rfl) (of_decide_eq_true rfl) ?_
                    refine wi_aload_n (i := 0) (x := 236) (nx := 1) (r1 := 0) (r2 := 0) (r3 := 0) rfl rfl ?_
                    refine wr_gr (k0 := 236) (x := 238) (nx := 4) (r1 := 11) (r2 := 13) (r3 := 0) rfl rfl (by decide) rfl ⟨rfl, rfl⟩ rfl ?_
                    refine wi_bipush (n := 74) (nx := 6) (r1 := 0) (r2 := 0) (r3 := 0) rfl (by decide) ?_
                    refine wi_bipush (n := 6) (nx := 8) (r1 := 0) (r2 := 0) (r3 := 0) rfl (by decide) ?_
                    refine wi_iload_n (i := 1) (e := 1) (nx := 9) (r1 := 0) (r2 := 0) (r3 := 0) rfl rfl ?_
                    refine wr_mulL (6) (nx := 10) (r1 := 0) (r2 := 0) (r3 := 0) rfl (by decide) ?_
                    refine wr_addL (80) (nx := 11) (r1 := 0) (r2 := 0) (r3 := 0) rfl (by decide) ?_
                    refine wi_iload_n (i := 2) (e := 0) (nx := 12) (r1 := 0) (r2 := 0) (r3 := 0) rfl rfl ?_
                    refine wr_addL (80) (nx := 13) (r1 := 0) (r2 := 0) (r3 := 0) rfl (by decide) ?_
                    refine wr_ia (k0 := 238) (a := 80) (f := 80) (x := h 238 80) (nx := 14) (r1 := 0) (r2 := 0) (r3 := 0) rfl (by decide) rfl (by omega) (by omega) (by decide) rfl ?_
                    refine wi_ireturn (nx := 15) (r1 := 0) (r2 := 0) (r3 := 0) rfl rfl ?_
                    refine wk_i ?_
                    refine wi_icmp (cd := .ge) (nx := 71) (r1 := 73) (r2 := 0) (r3 := 0) rfl (by omega) (by omega) (fun (q29 : (h 238 80) ≤ (h 238 80)) => ?_) (fun (q29 : ¬ ((h 238 80) ≤ (h 238 80))) => by exfalso; omega)
                    refine wr_iincL (i := 2) (n := 1) (v := 1) (2) ([(2, vi 2), (0, .ref 236), (1, vi 1)]) (nx := 76) (r1 := 0) (r2 := 0) (r3 := 0) rfl rfl (by decide) rfl ?_
                    refine wi_goto (nx := 79) (r1 := 4) (r2 := 0) (r3 := 0) rfl ?_
                    refine wp.lo (lo := [(0, .ref 236), (1, vi 1), (2, vi 2)]) ⟨rfl, rfl, rfl, trivial⟩ rfl ?_
                    have b30 := gi_b (lo := 0) (hi := 3) g 238 102 rfl
                    have b31 := gi_b (lo := 0) (hi := 3) g 238 7 rfl
                    have c33 : h 238 i14 = h 238 i14 := rfl
                    have cn32 : canL (h 238) 1 := ⟨(show (1 : Int) + 1 ≤ h 238 1 by omega), (show 1 ≤ h 238 99 by omega), (show h 238 67 ≤ 9998 by omega), (show ((1 ≤ h 238 (43 + (h 238 80).toNat) ∧ h 238 102 < h 238 7) ∨ (h 238 (43 + (h 238 80).toNat) ≤ 0 ∧ h 238 80 - h 238 106 ≤ h 238 3)) by rw [show 43 + (h 238 80).toNat = i14 by omega]; omega)⟩
                    exact I3 1 2 h ⟨rfl, (show (-1 ≤ 1 ∧ 1 ≤ 3) ∧ (0 ≤ 2 ∧ 2 ≤ 4) by omega), (laX.yes 1 (by decide) (by omega) cn32)⟩ (show ((4 : Int) + 1 - 2).toNat < ((4 : Int) + 1 - x2).toNat by omega)
                  ·
                    rw [q28]
                    refine wr_V (k0 := 236) (rest := [vi (h 238 80)]) (as := [.ref 236, vi 2, vi 0]) (nx := 68) (r1 := 258) (r2 := 2) (r3 := 11) rfl rfl rfl (of_decide_eq_true rfl) rfl rfl (by decide) rfl rfl (of_decide_eq_true rfl) (of_decide_eq_true rfl) ?_
                    refine wi_aload_n (i := 0) (x := 236) (nx := 1) (r1 := 0) (r2 := 0) (r3 := 0) rfl rfl ?_
                    refine wr_gr (k0 := 236) (x := 238) (nx := 4) (r1 := 11) (r2 := 13) (r3 := 0) rfl rfl (by decide) rfl ⟨rfl, rfl⟩ rfl ?_
                    refine wi_bipush (n := 74) (nx := 6) (r1 := 0) (r2 := 0) (r3 := 0) rfl (by decide) ?_
                    refine wi_bipush (n := 6) (nx := 8) (r1 := 0) (r2 := 0) (r3 := 0) rfl (by decide) ?_
                    refine wi_iload_n (i := 1) (e := 2) (nx := 9) (r1 := 0) (r2 := 0) (r3 := 0) rfl rfl ?_
                    refine wr_mulL (12) (nx := 10) (r1 := 0) (r2 := 0) (r3 := 0) rfl (by decide) ?_
                    refine wr_addL (86) (nx := 11) (r1 := 0) (r2 := 0) (r3 := 0) rfl (by decide) ?_
                    refine wi_iload_n (i := 2) (e := 0) (nx := 12) (r1 := 0) (r2 := 0) (r3 := 0) rfl rfl ?_
                    refine wr_addL (86) (nx := 13) (r1 := 0) (r2 := 0) (r3 := 0) rfl (by decide) ?_
                    have b29 := gi_b (lo := 0) (hi := 11) g 238 86 rfl
                    refine wr_ia (k0 := 238) (a := 86) (f := 86) (x := h 238 86) (nx := 14) (r1 := 0) (r2 := 0) (r3 := 0) rfl (by decide) rfl (by omega) (by omega) (by decide) rfl ?_
                    refine wi_ireturn (nx := 15) (r1 := 0) (r2 := 0) (r3 := 0) rfl rfl ?_
                    refine wk_i ?_
                    refine wi_icmp (cd := .ge) (nx := 71) (r1 := 73) (r2 := 0) (r3 := 0) rfl (by omega) (by omega) (fun (q30 : (h 238 86) ≤ (h 238 80)) => ?_) (fun (q30 : ¬ ((h 238 86) ≤ (h 238 80))) => ?_)
                    ·
                      refine wr_iincL (i := 2) (n := 1) (v := 1) (2) ([(2, vi 2), (0, .ref 236), (1, vi 2)]) (nx := 76) (r1 := 0) (r2 := 0) (r3 := 0) rfl rfl (by decide) rfl ?_
                      refine wi_goto (nx := 79) (r1 := 4) (r2 := 0) (r3 := 0) rfl ?_
                      refine wp.lo (lo := [(0, .ref 236), (1, vi 2), (2, vi 2)]) ⟨rfl, rfl, rfl, trivial⟩ rfl ?_
                      have b31 := gi_b (lo := 0) (hi := 3) g 238 102 rfl
                      have b32 := gi_b (lo := 0) (hi := 3) g 238 7 rfl
                      have c34 : h 238 i14 = h 238 i14 := rfl
                      have cn33 : canL (h 238) 1 := ⟨(show (1 : Int) + 1 ≤ h 238 1 by omega), (show 1 ≤ h 238 99 by omega), (show h 238 67 ≤ 9998 by omega), (show ((1 ≤ h 238 (43 + (h 238 80).toNat) ∧ h 238 102 < h 238 7) ∨ (h 238 (43 + (h 238 80).toNat) ≤ 0 ∧ h 238 80 - h 238 106 ≤ h 238 3)) by rw [show 43 + (h 238 80).toNat = i14 by omega]; omega)⟩
                      exact I3 2 2 h ⟨rfl, (show (-1 ≤ 2 ∧ 2 ≤ 3) ∧ (0 ≤ 2 ∧ 2 ≤ 4) by omega), (laX.yes 1 (by decide) (by omega) cn33)⟩ (show ((4 : Int) + 1 - 2).toNat < ((4 : Int) + 1 - x2).toNat by omega)
                    ·
                      refine wi_iload_n (i := 2) (e := 1) (nx := 72) (r1 := 0) (r2 := 0) (r3 := 0) rfl rfl ?_
                      refine wi_istore_n (i := 1) (e := 1) (lo2 := [(1, vi 1), (0, .ref 236), (2, vi 1)]) (nx := 73) (r1 := 0) (r2 := 0) (r3 := 0) rfl rfl ?_
                      refine wr_iincL (i := 2) (n := 1) (v := 1) (2) ([(2, vi 2), (1, vi 1), (0, .ref 236)]) (nx := 76) (r1 := 0) (r2 := 0) (r3 := 0) rfl rfl (by decide) rfl ?_
                      refine wi_goto (nx := 79) (r1 := 4) (r2 := 0) (r3 := 0) rfl ?_
                      refine wp.lo (lo := [(0, .ref 236), (1, vi 1), (2, vi 2)]) ⟨rfl, rfl, rfl, trivial⟩ rfl ?_
                      have b31 := gi_b (lo := 0) (hi := 3) g 238 102 rfl
                      have b32 := gi_b (lo := 0) (hi := 3) g 238 7 rfl
                      have c34 : h 238 i14 = h 238 i14 := rfl
                      have cn33 : canL (h 238) 1 := ⟨(show (1 : Int) + 1 ≤ h 238 1 by omega), (show 1 ≤ h 238 99 by omega), (show h 238 67 ≤ 9998 by omega), (show ((1 ≤ h 238 (43 + (h 238 80).toNat) ∧ h 238 102 < h 238 7) ∨ (h 238 (43 + (h 238 80).toNat) ≤ 0 ∧ h 238 80 - h 238 106 ≤ h 238 3)) by rw [show 43 + (h 238 80).toNat = i14 by omega]; omega)⟩
                      exact I3 1 2 h ⟨rfl, (show (-1 ≤ 1 ∧ 1 ≤ 3) ∧ (0 ≤ 2 ∧ 2 ≤ 4) by omega), (laX.yes 1 (by decide) (by omega) cn33)⟩ (show ((4 : Int) + 1 - 2).toNat < ((4 : Int) + 1 - x2).toNat by omega)
                  ·
                    rw [q28]
                    refine wr_V (k0 := 236) (rest := [vi (h 238 80)]) (as := [.ref 236, vi 3, vi 0]) (nx := 68) (r1 := 258) (r2 := 2) (r3 := 11) rfl rfl rfl (of_decide_eq_true rfl) rfl rfl (by decide) rfl rfl (of_decide_eq_true rfl) (of_decide_eq_true rfl) ?_
                    refine wi_aload_n (i := 0) (x := 236) (nx := 1) (r1 := 0) (r2 := 0) (r3 := 0) rfl rfl ?_
                    refine wr_gr (k0 := 236) (x := 238) (nx := 4) (r1 := 11) (r2 := 13) (r3 := 0) rfl rfl (by decide) rfl ⟨rfl, rfl⟩ rfl ?_
                    refine wi_bipush (n := 74) (nx := 6) (r1 := 0) (r2 := 0) (r3 := 0) rfl (by decide) ?_
                    refine wi_bipush (n := 6) (nx := 8) (r1 := 0) (r2 := 0) (r3 := 0) rfl (by decide) ?_
                    refine wi_iload_n (i := 1) (e := 3) (nx := 9) (r1 := 0) (r2 := 0) (r3 := 0) rfl rfl ?_
                    refine wr_mulL (18) (nx := 10) (r1 := 0) (r2 := 0) (r3 := 0) rfl (by decide) ?_
                    refine wr_addL (92) (nx := 11) (r1 := 0) (r2 := 0) (r3 := 0) rfl (by decide) ?_
                    refine wi_iload_n (i := 2) (e := 0) (nx := 12) (r1 := 0) (r2 := 0) (r3 := 0) rfl rfl ?_
                    refine wr_addL (92) (nx := 13) (r1 := 0) (r2 := 0) (r3 := 0) rfl (by decide) ?_
                    have b29 := gi_b (lo := 0) (hi := 11) g 238 92 rfl
                    refine wr_ia (k0 := 238) (a := 92) (f := 92) (x := h 238 92) (nx := 14) (r1 := 0) (r2 := 0) (r3 := 0) rfl (by decide) rfl (by omega) (by omega) (by decide) rfl ?_
                    refine wi_ireturn (nx := 15) (r1 := 0) (r2 := 0) (r3 := 0) rfl rfl ?_
                    refine wk_i ?_
                    refine wi_icmp (cd := .ge) (nx := 71) (r1 := 73) (r2 := 0) (r3 := 0) rfl (by omega) (by omega) (fun (q30 : (h 238 92) ≤ (h 238 80)) => ?_) (fun (q30 : ¬ ((h 238 92) ≤ (h 238 80))) => ?_)
                    ·
                      refine wr_iincL (i := 2) (n := 1) (v := 1) (2) ([(2, vi 2), (0, .ref 236), (1, vi 3)]) (nx := 76) (r1 := 0) (r2 := 0) (r3 := 0) rfl rfl (by decide) rfl ?_
                      refine wi_goto (nx := 79) (r1 := 4) (r2 := 0) (r3 := 0) rfl ?_
                      refine wp.lo (lo := [(0, .ref 236), (1, vi 3), (2, vi 2)]) ⟨rfl, rfl, rfl, trivial⟩ rfl ?_
                      have b31 := gi_b (lo := 0) (hi := 3) g 238 102 rfl
                      have b32 := gi_b (lo := 0) (hi := 3) g 238 7 rfl
                      have c34 : h 238 i14 = h 238 i14 := rfl
                      have cn33 : canL (h 238) 1 := ⟨(show (1 : Int) + 1 ≤ h 238 1 by omega), (show 1 ≤ h 238 99 by omega), (show h 238 67 ≤ 9998 by omega), (show ((1 ≤ h 238 (43 + (h 238 80).toNat) ∧ h 238 102 < h 238 7) ∨ (h 238 (43 + (h 238 80).toNat) ≤ 0 ∧ h 238 80 - h 238 106 ≤ h 238 3)) by rw [show 43 + (h 238 80).toNat = i14 by omega]; omega)⟩
                      exact I3 3 2 h ⟨rfl, (show (-1 ≤ 3 ∧ 3 ≤ 3) ∧ (0 ≤ 2 ∧ 2 ≤ 4) by omega), (laX.yes 1 (by decide) (by omega) cn33)⟩ (show ((4 : Int) + 1 - 2).toNat < ((4 : Int) + 1 - x2).toNat by omega)
                    ·
                      refine wi_iload_n (i := 2) (e := 1) (nx := 72) (r1 := 0) (r2 := 0) (r3 := 0) rfl rfl ?_
                      refine wi_istore_n (i := 1) (e := 1) (lo2 := [(1, vi 1), (0, .ref 236), (2, vi 1)]) (nx := 73) (r1 := 0) (r2 := 0) (r3 := 0) rfl rfl ?_
                      refine wr_iincL (i := 2) (n := 1) (v := 1) (2) ([(2, vi 2), (1, vi 1), (0, .ref 236)]) (nx := 76) (r1 := 0) (r2 := 0) (r3 := 0) rfl rfl (by decide) rfl ?_
                      refine wi_goto (nx := 79) (r1 := 4) (r2 := 0) (r3 := 0) rfl ?_
                      refine wp.lo (lo := [(0, .ref 236), (1, vi 1), (2, vi 2)]) ⟨rfl, rfl, rfl, trivial⟩ rfl ?_
                      have b31 := gi_b (lo := 0) (hi := 3) g 238 102 rfl
                      have b32 := gi_b (lo := 0) (hi := 3) g 238 7 rfl
                      have c34 : h 238 i14 = h 238 i14 := rfl
                      have cn33 : canL (h 238) 1 := ⟨(show (1 : Int) + 1 ≤ h 238 1 by omega), (show 1 ≤ h 238 99 by omega), (show h 238 67 ≤ 9998 by omega), (show ((1 ≤ h 238 (43 + (h 238 80).toNat) ∧ h 238 102 < h 238 7) ∨ (h 238 (43 + (h 238 80).toNat) ≤ 0 ∧ h 238 80 - h 238 106 ≤ h 238 3)) by rw [show 43 + (h 238 80).toNat = i14 by omega]; omega)⟩
                      exact I3 1 2 h ⟨rfl, (show (-1 ≤ 1 ∧ 1 ≤ 3) ∧ (0 ≤ 2 ∧ 2 ≤ 4) by omega), (laX.yes 1 (by decide) (by omega) cn33)⟩ (show ((4 : Int) + 1 - 2).toNat < ((4 : Int) + 1 - x2).toNat by omega)
              ·
                refine wi_iload_n (i := 2) (e := 1) (nx := 50) (r1 := 0) (r2 := 0) (r3 := 0) rfl rfl ?_
                refine wi_ireturn (nx := 51) (r1 := 0) (r2 := 0) (r3 := 0) rfl rfl ?_
                have b27 := gi_b (lo := 0) (hi := 3) g 238 102 rfl
                have b28 := gi_b (lo := 0) (hi := 3) g 238 7 rfl
                have c30 : h 238 i14 = h 238 i14 := rfl
                have cn29 : canL (h 238) 1 := ⟨(show (1 : Int) + 1 ≤ h 238 1 by omega), (show 1 ≤ h 238 99 by omega), (show h 238 67 ≤ 9998 by omega), (show ((1 ≤ h 238 (43 + (h 238 80).toNat) ∧ h 238 102 < h 238 7) ∨ (h 238 (43 + (h 238 80).toNat) ≤ 0 ∧ h 238 80 - h 238 106 ≤ h 238 3)) by rw [show 43 + (h 238 80).toNat = i14 by omega]; omega)⟩
                exact k 1 (by omega) (laX.yes 1 (by decide) (by omega) cn29)
          ·
            refine wi_aload_n (i := 0) (x := 236) (nx := 47) (r1 := 0) (r2 := 0) (r3 := 0) rfl rfl ?_
            refine wr_gr (k0 := 236) (x := 238) (nx := 50) (r1 := 11) (r2 := 13) (r3 := 0) rfl rfl (by decide) rfl ⟨rfl, rfl⟩ rfl ?_
            refine wi_bipush (n := 102) (nx := 52) (r1 := 0) (r2 := 0) (r3 := 0) rfl (by decide) ?_
            have b17 := gi_b (lo := 0) (hi := 3) g 238 102 rfl
            refine wr_ia (k0 := 238) (a := 102) (f := 102) (x := h 238 102) (nx := 53) (r1 := 0) (r2 := 0) (r3 := 0) rfl (by decide) rfl (by omega) (by omega) (by decide) rfl ?_
            refine wi_aload_n (i := 0) (x := 236) (nx := 54) (r1 := 0) (r2 := 0) (r3 := 0) rfl rfl ?_
            refine wr_gr (k0 := 236) (x := 238) (nx := 57) (r1 := 11) (r2 := 13) (r3 := 0) rfl rfl (by decide) rfl ⟨rfl, rfl⟩ rfl ?_
            refine wi_bipush (n := 7) (nx := 59) (r1 := 0) (r2 := 0) (r3 := 0) rfl (by decide) ?_
            have b18 := gi_b (lo := 0) (hi := 3) g 238 7 rfl
            refine wr_ia (k0 := 238) (a := 7) (f := 7) (x := h 238 7) (nx := 60) (r1 := 0) (r2 := 0) (r3 := 0) rfl (by decide) rfl (by omega) (by omega) (by decide) rfl ?_
            refine wi_icmp (cd := .ge) (nx := 63) (r1 := 67) (r2 := 0) (r3 := 0) rfl (by omega) (by omega) (fun (q19 : (h 238 7) ≤ (h 238 102)) => ?_) (fun (q19 : ¬ ((h 238 7) ≤ (h 238 102))) => ?_)
            ·
              refine wi_iconst (n := 0) (nx := 68) (r1 := 0) (r2 := 0) (r3 := 0) rfl ?_
              refine wi_goto (nx := 71) (r1 := 94) (r2 := 0) (r3 := 0) rfl ?_
              refine wi_zreturn (nx := 95) (r1 := 0) (r2 := 0) (r3 := 0) rfl rfl (by omega) ?_
              refine wk_i ?_
              refine wi_if (cd := .ne) (nx := 22) (r1 := 25) (r2 := 0) (r3 := 0) rfl (by omega) (fun (q20 : 0 ≠ 0) => by exfalso; omega) (fun (q20 : ¬ (0 ≠ 0)) => ?_)
              refine wi_goto (nx := 25) (r1 := 73) (r2 := 0) (r3 := 0) rfl ?_
              refine wr_iincL (i := 2) (n := 1) (v := 1) (2) ([(2, vi 2), (0, .ref 236), (1, vi x1)]) (nx := 76) (r1 := 0) (r2 := 0) (r3 := 0) rfl rfl (by decide) rfl ?_
              refine wi_goto (nx := 79) (r1 := 4) (r2 := 0) (r3 := 0) rfl ?_
              refine wp.lo (lo := [(0, .ref 236), (1, vi x1), (2, vi 2)]) ⟨rfl, rfl, rfl, trivial⟩ rfl ?_
              have b21 := gi_b (lo := 0) (hi := 12) g 238 106 rfl
              have b22 := gi_b (lo := 0) (hi := 999) g 238 3 rfl
              have c24 : h 238 i14 = h 238 i14 := rfl
              have cn23 : ¬ canL (h 238) 1 := fun c => by
                have c1 : (1 : Int) + 1 ≤ h 238 1 := c.1
                have c2 : 1 ≤ h 238 99 := c.2.1
                have c3 : h 238 67 ≤ 9998 := c.2.2.1
                have c4 : ((1 ≤ h 238 (43 + (h 238 80).toNat) ∧ h 238 102 < h 238 7) ∨ (h 238 (43 + (h 238 80).toNat) ≤ 0 ∧ h 238 80 - h 238 106 ≤ h 238 3)) := c.2.2.2
                rw [show 43 + (h 238 80).toNat = i14 by omega] at c4; omega
              exact I3 x1 2 h ⟨rfl, (show (-1 ≤ x1 ∧ x1 ≤ 3) ∧ (0 ≤ 2 ∧ 2 ≤ 4) by omega), (laX.no X3_0 (by omega) 1 (by omega) cn23)⟩ (show ((4 : Int) + 1 - 2).toNat < ((4 : Int) + 1 - x2).toNat by omega)
            ·
              refine wi_iconst (n := 1) (nx := 64) (r1 := 0) (r2 := 0) (r3 := 0) rfl ?_
              refine wi_goto (nx := 67) (r1 := 94) (r2 := 0) (r3 := 0) rfl ?_
              refine wi_zreturn (nx := 95) (r1 := 0) (r2 := 0) (r3 := 0) rfl rfl (by omega) ?_
              refine wk_i ?_
              refine wi_if (cd := .ne) (nx := 22) (r1 := 25) (r2 := 0) (r3 := 0) rfl (by omega) (fun (q20 : 1 ≠ 0) => ?_) (fun (q20 : ¬ (1 ≠ 0)) => by exfalso; omega)
              refine wi_aload_n (i := 0) (x := 236) (nx := 26) (r1 := 0) (r2 := 0) (r3 := 0) rfl rfl ?_
              refine wr_gr (k0 := 236) (x := 238) (nx := 29) (r1 := 11) (r2 := 13) (r3 := 0) rfl rfl (by decide) rfl ⟨rfl, rfl⟩ rfl ?_
              refine wi_bipush (n := 31) (nx := 31) (r1 := 0) (r2 := 0) (r3 := 0) rfl (by decide) ?_
              refine wi_aload_n (i := 0) (x := 236) (nx := 32) (r1 := 0) (r2 := 0) (r3 := 0) rfl rfl ?_
              refine wi_iload_n (i := 2) (e := 1) (nx := 33) (r1 := 0) (r2 := 0) (r3 := 0) rfl rfl ?_
              refine wi_iconst (n := 0) (nx := 34) (r1 := 0) (r2 := 0) (r3 := 0) rfl ?_
              refine wr_V (k0 := 236) (rest := [vi 31, .ref 238]) (as := [.ref 236, vi 1, vi 0]) (nx := 37) (r1 := 258) (r2 := 2) (r3 := 11) rfl rfl rfl (of_decide_eq_true rfl) rfl rfl (by decide) rfl rfl (of_decide_eq_true rfl) (of_decide_eq_true rfl) ?_
              refine wi_aload_n (i := 0) (x := 236) (nx := 1) (r1 := 0) (r2 := 0) (r3 := 0) rfl rfl ?_
              refine wr_gr (k0 := 236) (x := 238) (nx := 4) (r1 := 11) (r2 := 13) (r3 := 0) rfl rfl (by decide) rfl ⟨rfl, rfl⟩ rfl ?_
              refine wi_bipush (n := 74) (nx := 6) (r1 := 0) (r2 := 0) (r3 := 0) rfl (by decide) ?_
              refine wi_bipush (n := 6) (nx := 8) (r1 := 0) (r2 := 0) (r3 := 0) rfl (by decide) ?_
              refine wi_iload_n (i := 1) (e := 1) (nx := 9) (r1 := 0) (r2 := 0) (r3 := 0) rfl rfl ?_
              refine wr_mulL (6) (nx := 10) (r1 := 0) (r2 := 0) (r3 := 0) rfl (by decide) ?_
              refine wr_addL (80) (nx := 11) (r1 := 0) (r2 := 0) (r3 := 0) rfl (by decide) ?_
              refine wi_iload_n (i := 2) (e := 0) (nx := 12) (r1 := 0) (r2 := 0) (r3 := 0) rfl rfl ?_
              refine wr_addL (80) (nx := 13) (r1 := 0) (r2 := 0) (r3 := 0) rfl (by decide) ?_
              refine wr_ia (k0 := 238) (a := 80) (f := 80) (x := h 238 80) (nx := 14) (r1 := 0) (r2 := 0) (r3 := 0) rfl (by decide) rfl (by omega) (by omega) (by decide) rfl ?_
              refine wi_ireturn (nx := 15) (r1 := 0) (r2 := 0) (r3 := 0) rfl rfl ?_
              refine wk_i ?_
              refine wr_add (nx := 38) (r1 := 0) (r2 := 0) (r3 := 0) rfl (fun e21 (fe21 : e21 = 31 + (h 238 80)) => ?_)
              obtain ⟨i22, ei22⟩ : ∃ q : Nat, e21 = (q : Int) := ⟨(e21).toNat, by omega⟩
              have b23 := gi_b (lo := 0) (hi := 4) g 238 i22 (gi_rg 31 12 (fun _ => rfl) (by decide +kernel) (by omega))
              refine wr_ia (k0 := 238) (a := e21) (f := i22) (x := h 238 i22) (nx := 39) (r1 := 0) (r2 := 0) (r3 := 0) rfl (by decide) rfl (by omega) (by omega) (by decide) rfl ?_
              refine wi_aload_n (i := 0) (x := 236) (nx := 40) (r1 := 0) (r2 := 0) (r3 := 0) rfl rfl ?_
              refine wr_gr (k0 := 236) (x := 238) (nx := 43) (r1 := 11) (r2 := 13) (r3 := 0) rfl rfl (by decide) rfl ⟨rfl, rfl⟩ rfl ?_
              refine wi_bipush (n := 68) (nx := 45) (r1 := 0) (r2 := 0) (r3 := 0) rfl (by decide) ?_
              have b24 := gi_b (lo := -1) (hi := 4) g 238 68 rfl
              refine wr_ia (k0 := 238) (a := 68) (f := 68) (x := h 238 68) (nx := 46) (r1 := 0) (r2 := 0) (r3 := 0) rfl (by decide) rfl (by omega) (by omega) (by decide) rfl ?_
              refine wi_icmp (cd := .ne) (nx := 49) (r1 := 51) (r2 := 0) (r3 := 0) rfl (by omega) (by omega) (fun (q25 : (h 238 i22) ≠ (h 238 68)) => ?_) (fun (q25 : ¬ ((h 238 i22) ≠ (h 238 68))) => ?_)
              ·
                refine wi_iload_n (i := 1) (e := x1) (nx := 52) (r1 := 0) (r2 := 0) (r3 := 0) rfl rfl ?_
                refine wi_iconst (n := (-1)) (nx := 53) (r1 := 0) (r2 := 0) (r3 := 0) rfl ?_
                refine wi_icmp (cd := .eq) (nx := 56) (r1 := 71) (r2 := 0) (r3 := 0) rfl (by omega) (by omega) (fun (q26 : x1 = (-1)) => ?_) (fun (q26 : ¬ (x1 = (-1))) => ?_)
                ·
                  refine wi_iload_n (i := 2) (e := 1) (nx := 72) (r1 := 0) (r2 := 0) (r3 := 0) rfl rfl ?_
                  refine wi_istore_n (i := 1) (e := 1) (lo2 := [(1, vi 1), (0, .ref 236), (2, vi 1)]) (nx := 73) (r1 := 0) (r2 := 0) (r3 := 0) rfl rfl ?_
                  refine wr_iincL (i := 2) (n := 1) (v := 1) (2) ([(2, vi 2), (1, vi 1), (0, .ref 236)]) (nx := 76) (r1 := 0) (r2 := 0) (r3 := 0) rfl rfl (by decide) rfl ?_
                  refine wi_goto (nx := 79) (r1 := 4) (r2 := 0) (r3 := 0) rfl ?_
                  refine wp.lo (lo := [(0, .ref 236), (1, vi 1), (2, vi 2)]) ⟨rfl, rfl, rfl, trivial⟩ rfl ?_
                  have b27 := gi_b (lo := 0) (hi := 12) g 238 106 rfl
                  have b28 := gi_b (lo := 0) (hi := 999) g 238 3 rfl
                  have c30 : h 238 i14 = h 238 i14 := rfl
                  have cn29 : canL (h 238) 1 := ⟨(show (1 : Int) + 1 ≤ h 238 1 by omega), (show 1 ≤ h 238 99 by omega), (show h 238 67 ≤ 9998 by omega), (show ((1 ≤ h 238 (43 + (h 238 80).toNat) ∧ h 238 102 < h 238 7) ∨ (h 238 (43 + (h 238 80).toNat) ≤ 0 ∧ h 238 80 - h 238 106 ≤ h 238 3)) by rw [show 43 + (h 238 80).toNat = i14 by omega]; omega)⟩
                  exact I3 1 2 h ⟨rfl, (show (-1 ≤ 1 ∧ 1 ≤ 3) ∧ (0 ≤ 2 ∧ 2 ≤ 4) by omega), (laX.yes 1 (by decide) (by omega) cn29)⟩ (show ((4 : Int) + 1 - 2).toNat < ((4 : Int) + 1 - x2).toNat by omega)
                ·
                  refine wi_aload_n (i := 0) (x := 236) (nx := 57) (r1 := 0) (r2 := 0) (r3 := 0) rfl rfl ?_
                  refine wi_iload_n (i := 2) (e := 1) (nx := 58) (r1 := 0) (r2 := 0) (r3 := 0) rfl rfl ?_
                  refine wi_iconst (n := 0) (nx := 59) (r1 := 0) (r2 := 0) (r3 := 0) rfl ?_
                  refine wr_V (k0 := 236) (rest := []) (as := [.ref 236, vi 1, vi 0]) (nx := 62) (r1 := 258) (r2 := 2) (r3 := 11) rfl rfl rfl (of_decide_eq_true rfl) rfl rfl (by decide) rfl rfl (of_decide_eq_true rfl) (of_decide_eq_true rfl) ?_
                  refine wi_aload_n (i := 0) (x := 236) (nx := 1) (r1 := 0) (r2 := 0) (r3 := 0) rfl rfl ?_
                  refine wr_gr (k0 := 236) (x := 238) (nx := 4) (r1 := 11) (r2 := 13) (r3 := 0) rfl rfl (by decide) rfl ⟨rfl, rfl⟩ rfl ?_
                  refine wi_bipush (n := 74) (nx := 6) (r1 := 0) (r2 := 0) (r3 := 0) rfl (by decide) ?_
                  refine wi_bipush (n := 6) (nx := 8) (r1 := 0) (r2 := 0) (r3 := 0) rfl (by decide) ?_
                  refine wi_iload_n (i := 1) (e := 1) (nx := 9) (r1 := 0) (r2 := 0) (r3 := 0) rfl rfl ?_
                  refine wr_mulL (6) (nx := 10) (r1 := 0) (r2 := 0) (r3 := 0) rfl (by decide) ?_
                  refine wr_addL (80) (nx := 11) (r1 := 0) (r2 := 0) (r3 := 0) rfl (by decide) ?_
                  refine wi_iload_n (i := 2) (e := 0) (nx := 12) (r1 := 0) (r2 := 0) (r3 := 0) rfl rfl ?_
                  refine wr_addL (80) (nx := 13) (r1 := 0) (r2 := 0) (r3 := 0) rfl (by decide) ?_
                  refine wr_ia (k0 := 238) (a := 80) (f := 80) (x := h 238 80) (nx := 14) (r1 := 0) (r2 := 0) (r3 := 0) rfl (by decide) rfl (by omega) (by omega) (by decide) rfl ?_
                  refine wi_ireturn (nx := 15) (r1 := 0) (r2 := 0) (r3 := 0) rfl rfl ?_
                  refine wk_i ?_
                  refine wi_aload_n (i := 0) (x := 236) (nx := 63) (r1 := 0) (r2 := 0) (r3 := 0) rfl rfl ?_
                  refine wi_iload_n (i := 1) (e := x1) (nx := 64) (r1 := 0) (r2 := 0) (r3 := 0) rfl rfl ?_
                  refine wi_iconst (n := 0) (nx := 65) (r1 := 0) (r2 := 0) (r3 := 0) rfl ?_
                  rcases (show x1 = 0 ∨ x1 = 1 ∨ x1 = 2 ∨ x1 = 3 by omega) with q27 | q27 | q27 | q27
                  ·
                    rw [q27]
                    refine wr_V (k0 := 236) (rest := [vi (h 238 80)]) (as := [.ref 236, vi 0, vi 0]) (nx := 68) (r1 := 258) (r2 := 2) (r3 := 11) rfl rfl rfl (of_decide_eq_true rfl) rfl rfl (by decide) rfl rfl (of_decide_eq_true rfl) (of_decide_eq_true rfl) ?_
                    refine wi_aload_n (i := 0) (x := 236) (nx := 1) (r1 := 0) (r2 := 0) (r3 := 0) rfl rfl ?_
                    refine wr_gr (k0 := 236) (x := 238) (nx := 4) (r1 := 11) (r2 := 13) (r3 := 0) rfl rfl (by decide) rfl ⟨rfl, rfl⟩ rfl ?_
                    refine wi_bipush (n := 74) (nx := 6) (r1 := 0) (r2 := 0) (r3 := 0) rfl (by decide) ?_
                    refine wi_bipush (n := 6) (nx := 8) (r1 := 0) (r2 := 0) (r3 := 0) rfl (by decide) ?_
                    refine wi_iload_n (i := 1) (e := 0) (nx := 9) (r1 := 0) (r2 := 0) (r3 := 0) rfl rfl ?_
                    refine wr_mulL (0) (nx := 10) (r1 := 0) (r2 := 0) (r3 := 0) rfl (by decide) ?_
                    refine wr_addL (74) (nx := 11) (r1 := 0) (r2 := 0) (r3 := 0) rfl (by decide) ?_
                    refine wi_iload_n (i := 2) (e := 0) (nx := 12) (r1 := 0) (r2 := 0) (r3 := 0) rfl rfl ?_
                    refine wr_addL (74) (nx := 13) (r1 := 0) (r2 := 0) (r3 := 0) rfl (by decide) ?_
                    have b28 := gi_b (lo := 0) (hi := 11) g 238 74 rfl
                    refine wr_ia (k0 := 238) (a := 74) (f := 74) (x := h 238 74) (nx := 14) (r1 := 0) (r2 := 0) (r3 := 0) rfl (by decide) rfl (by omega) (by omega) (by decide) rfl ?_
                    refine wi_ireturn (nx := 15) (r1 := 0) (r2 := 0) (r3 := 0) rfl rfl ?_
                    refine wk_i ?_
                    refine wi_icmp (cd := .ge) (nx := 71) (r1 := 73) (r2 := 0) (r3 := 0) rfl (by omega) (by omega) (fun (q29 : (h 238 74) ≤ (h 238 80)) => ?_) (fun (q29 : ¬ ((h 238 74) ≤ (h 238 80))) => ?_)
                    ·
                      refine wr_iincL (i := 2) (n := 1) (v := 1) (2) ([(2, vi 2), (0, .ref 236), (1, vi 0)]) (nx := 76) (r1 := 0) (r2 := 0) (r3 := 0) rfl rfl (by decide) rfl ?_
                      refine wi_goto (nx := 79) (r1 := 4) (r2 := 0) (r3 := 0) rfl ?_
                      refine wp.lo (lo := [(0, .ref 236), (1, vi 0), (2, vi 2)]) ⟨rfl, rfl, rfl, trivial⟩ rfl ?_
                      have b30 := gi_b (lo := 0) (hi := 12) g 238 106 rfl
                      have b31 := gi_b (lo := 0) (hi := 999) g 238 3 rfl
                      have c33 : h 238 i14 = h 238 i14 := rfl
                      have cn32 : canL (h 238) 1 := ⟨(show (1 : Int) + 1 ≤ h 238 1 by omega), (show 1 ≤ h 238 99 by omega), (show h 238 67 ≤ 9998 by omega), (show ((1 ≤ h 238 (43 + (h 238 80).toNat) ∧ h 238 102 < h 238 7) ∨ (h 238 (43 + (h 238 80).toNat) ≤ 0 ∧ h 238 80 - h 238 106 ≤ h 238 3)) by rw [show 43 + (h 238 80).toNat = i14 by omega]; omega)⟩
                      exact I3 0 2 h ⟨rfl, (show (-1 ≤ 0 ∧ 0 ≤ 3) ∧ (0 ≤ 2 ∧ 2 ≤ 4) by omega), (laX.yes 1 (by decide) (by omega) cn32)⟩ (show ((4 : Int) + 1 - 2).toNat < ((4 : Int) + 1 - x2).toNat by omega)
                    ·
                      refine wi_iload_n (i := 2) (e := 1) (nx := 72) (r1 := 0) (r2 := 0) (r3 := 0) rfl rfl ?_
                      refine wi_istore_n (i := 1) (e := 1) (lo2 := [(1, vi 1), (0, .ref 236), (2, vi 1)]) (nx := 73) (r1 := 0) (r2 := 0) (r3 := 0) rfl rfl ?_
                      refine wr_iincL (i := 2) (n := 1) (v := 1) (2) ([(2, vi 2), (1, vi 1), (0, .ref 236)]) (nx := 76) (r1 := 0) (r2 := 0) (r3 := 0) rfl rfl (by decide) rfl ?_
                      refine wi_goto (nx := 79) (r1 := 4) (r2 := 0) (r3 := 0) rfl ?_
                      refine wp.lo (lo := [(0, .ref 236), (1, vi 1), (2, vi 2)]) ⟨rfl, rfl, rfl, trivial⟩ rfl ?_
                      have b30 := gi_b (lo := 0) (hi := 12) g 238 106 rfl
                      have b31 := gi_b (lo := 0) (hi := 999) g 238 3 rfl
                      have c33 : h 238 i14 = h 238 i14 := rfl
                      have cn32 : canL (h 238) 1 := ⟨(show (1 : Int) + 1 ≤ h 238 1 by omega), (show 1 ≤ h 238 99 by omega), (show h 238 67 ≤ 9998 by omega), (show ((1 ≤ h 238 (43 + (h 238 80).toNat) ∧ h 238 102 < h 238 7) ∨ (h 238 (43 + (h 238 80).toNat) ≤ 0 ∧ h 238 80 - h 238 106 ≤ h 238 3)) by rw [show 43 + (h 238 80).toNat = i14 by omega]; omega)⟩
                      exact I3 1 2 h ⟨rfl, (show (-1 ≤ 1 ∧ 1 ≤ 3) ∧ (0 ≤ 2 ∧ 2 ≤ 4) by omega), (laX.yes 1 (by decide) (by omega) cn32)⟩ (show ((4 : Int) + 1 - 2).toNat < ((4 : Int) + 1 - x2).toNat by omega)
                  ·
                    rw [q27]
                    refine wr_V (k0 := 236) (rest := [vi (h 238 80)]) (as := [.ref 236, vi 1, vi 0]) (nx := 68) (r1 := 258) (r2 := 2) (r3 := 11) rfl rfl rfl (of_decide_eq_true rfl) rfl rfl (by decide) rfl rfl (of_decide_eq_true rfl) (of_decide_eq_true rfl) ?_
                    refine wi_aload_n (i := 0) (x := 236) (nx := 1) (r1 := 0) (r2 := 0) (r3 := 0) rfl rfl ?_
                    refine wr_gr (k0 := 236) (x := 238) (nx := 4) (r1 := 11) (r2 := 13) (r3 := 0) rfl rfl (by decide) rfl ⟨rfl, rfl⟩ rfl ?_
                    refine wi_bipush (n := 74) (nx := 6) (r1 := 0) (r2 := 0) (r3 := 0) rfl (by decide) ?_
                    refine wi_bipush (n := 6) (nx := 8) (r1 := 0) (r2 := 0) (r3 := 0) rfl (by decide) ?_
                    refine wi_iload_n (i := 1) (e := 1) (nx := 9) (r1 := 0) (r2 := 0) (r3 := 0) rfl rfl ?_
                    refine wr_mulL (6) (nx := 10) (r1 := 0) (r2 := 0) (r3 := 0) rfl (by decide) ?_
                    refine wr_addL (80) (nx := 11) (r1 := 0) (r2 := 0) (r3 := 0) rfl (by decide) ?_
                    refine wi_iload_n (i := 2) (e := 0) (nx := 12) (r1 := 0) (r2 := 0) (r3 := 0) rfl rfl ?_
                    refine wr_addL (80) (nx := 13) (r1 := 0) (r2 := 0) (r3 := 0) rfl (by decide) ?_
                    refine wr_ia (k0 := 238) (a := 80) (f := 80) (x := h 238 80) (nx := 14) (r1 := 0) (r2 := 0) (r3 := 0) rfl (by decide) rfl (by omega) (by omega) (by decide) rfl ?_
                    refine wi_ireturn (nx := 15) (r1 := 0) (r2 := 0) (r3 := 0) rfl rfl ?_
                    refine wk_i ?_
                    refine wi_icmp (cd := .ge) (nx := 71) (r1 := 73) (r2 := 0) (r3 := 0) rfl (by omega) (by omega) (fun (q28 : (h 238 80) ≤ (h 238 80)) => ?_) (fun (q28 : ¬ ((h 238 80) ≤ (h 238 80))) => by exfalso; omega)
                    refine wr_iincL (i := 2) (n := 1) (v := 1) (2) ([(2, vi 2), (0, .ref 236), (1, vi 1)]) (nx := 76) (r1 := 0) (r2 := 0) (r3 := 0) rfl rfl (by decide) rfl ?_
                    refine wi_goto (nx := 79) (r1 := 4) (r2 := 0) (r3 := 0) rfl ?_
                    refine wp.lo (lo := [(0, .ref 236), (1, vi 1), (2, vi 2)]) ⟨rfl, rfl, rfl, trivial⟩ rfl ?_
                    have b29 := gi_b (lo := 0) (hi := 12) g 238 106 rfl
                    have b30 := gi_b (lo := 0) (hi := 999) g 238 3 rfl
                    have c32 : h 238 i14 = h 238 i14 := rfl
                    have cn31 : canL (h 238) 1 := ⟨(show (1 : Int) + 1 ≤ h 238 1 by omega), (show 1 ≤ h 238 99 by omega), (show h 238 67 ≤ 9998 by omega), (show ((1 ≤ h 238 (43 + (h 238 80).toNat) ∧ h 238 102 < h 238 7) ∨ (h 238 (43 + (h 238 80).toNat) ≤ 0 ∧ h 238 80 - h 238 106 ≤ h 238 3)) by rw [show 43 + (h 238 80).toNat = i14 by omega]; omega)⟩
                    exact I3 1 2 h ⟨rfl, (show (-1 ≤ 1 ∧ 1 ≤ 3) ∧ (0 ≤ 2 ∧ 2 ≤ 4) by omega), (laX.yes 1 (by decide) (by omega) cn31)⟩ (show ((4 : Int) + 1 - 2).toNat < ((4 : Int) + 1 - x2).toNat by omega)
                  ·
                    rw [q27]
                    refine wr_V (k0 := 236) (rest := [vi (h 238 80)]) (as := [.ref 236, vi 2, vi 0]) (nx := 68) (r1 := 258) (r2 := 2) (r3 := 11) rfl rfl rfl (of_decide_eq_true rfl) rfl rfl (by decide) rfl rfl (of_decide_eq_true rfl) (of_decide_eq_true rfl) ?_
                    refine wi_aload_n (i := 0) (x := 236) (nx := 1) (r1 := 0) (r2 := 0) (r3 := 0) rfl rfl ?_
                    refine wr_gr (k0 := 236) (x := 238) (nx := 4) (r1 := 11) (r2 := 13) (r3 := 0) rfl rfl (by decide) rfl ⟨rfl, rfl⟩ rfl ?_
                    refine wi_bipush (n := 74) (nx := 6) (r1 := 0) (r2 := 0) (r3 := 0) rfl (by decide) ?_
                    refine wi_bipush (n := 6) (nx := 8) (r1 := 0) (r2 := 0) (r3 := 0) rfl (by decide) ?_
                    refine wi_iload_n (i := 1) (e := 2) (nx := 9) (r1 := 0) (r2 := 0) (r3 := 0) rfl rfl ?_
                    refine wr_mulL (12) (nx := 10) (r1 := 0) (r2 := 0) (r3 := 0) rfl (by decide) ?_
                    refine wr_addL (86) (nx := 11) (r1 := 0) (r2 := 0) (r3 := 0) rfl (by decide) ?_
                    refine wi_iload_n (i := 2) (e := 0) (nx := 12) (r1 := 0) (r2 := 0) (r3 := 0) rfl rfl ?_
                    refine wr_addL (86) (nx := 13) (r1 := 0) (r2 := 0) (r3 := 0) rfl (by decide) ?_
                    have b28 := gi_b (lo := 0) (hi := 11) g 238 86 rfl
                    refine wr_ia (k0 := 238) (a := 86) (f := 86) (x := h 238 86) (nx := 14) (r1 := 0) (r2 := 0) (r3 := 0) rfl (by decide) rfl (by omega) (by omega) (by decide) rfl ?_
                    refine wi_ireturn (nx := 15) (r1 := 0) (r2 := 0) (r3 := 0) rfl rfl ?_
                    refine wk_i ?_
                    refine wi_icmp (cd := .ge) (nx := 71) (r1 := 73) (r2 := 0) (r3 := 0) rfl (by omega) (by omega) (fun (q29 : (h 238 86) ≤ (h 238 80)) => ?_) (fun (q29 : ¬ ((h 238 86) ≤ (h 238 80))) => ?_)
                    ·
                      refine wr_iincL (i := 2) (n := 1) (v := 1) (2) ([(2, vi 2), (0, .ref 236), (1, vi 2)]) (nx := 76) (r1 := 0) (r2 := 0) (r3 := 0) rfl rfl (by decide) rfl ?_
                      refine wi_goto (nx := 79) (r1 := 4) (r2 := 0) (r3 := 0) rfl ?_
                      refine wp.lo (lo := [(0, .ref 236), (1, vi 2), (2, vi 2)]) ⟨rfl, rfl, rfl, trivial⟩ rfl ?_
                      have b30 := gi_b (lo := 0) (hi := 12) g 238 106 rfl
                      have b31 := gi_b (lo := 0) (hi := 999) g 238 3 rfl
                      have c33 : h 238 i14 = h 238 i14 := rfl
                      have cn32 : canL (h 238) 1 := ⟨(show (1 : Int) + 1 ≤ h 238 1 by omega), (show 1 ≤ h 238 99 by omega), (show h 238 67 ≤ 9998 by omega), (show ((1 ≤ h 238 (43 + (h 238 80).toNat) ∧ h 238 102 < h 238 7) ∨ (h 238 (43 + (h 238 80).toNat) ≤ 0 ∧ h 238 80 - h 238 106 ≤ h 238 3)) by rw [show 43 + (h 238 80).toNat = i14 by omega]; omega)⟩
                      exact I3 2 2 h ⟨rfl, (show (-1 ≤ 2 ∧ 2 ≤ 3) ∧ (0 ≤ 2 ∧ 2 ≤ 4) by omega), (laX.yes 1 (by decide) (by omega) cn32)⟩ (show ((4 : Int) + 1 - 2).toNat < ((4 : Int) + 1 - x2).toNat by omega)
                    ·
                      refine wi_iload_n (i := 2) (e := 1) (nx := 72) (r1 := 0) (r2 := 0) (r3 := 0) rfl rfl ?_
                      refine wi_istore_n (i := 1) (e := 1) (lo2 := [(1, vi 1), (0, .ref 236), (2, vi 1)]) (nx := 73) (r1 := 0) (r2 := 0) (r3 := 0) rfl rfl ?_
                      refine wr_iincL (i := 2) (n := 1) (v := 1) (2) ([(2, vi 2), (1, vi 1), (0, .ref 236)]) (nx := 76) (r1 := 0) (r2 := 0) (r3 := 0) rfl rfl (by decide) rfl ?_
                      refine wi_goto (nx := 79) (r1 := 4) (r2 := 0) (r3 := 0) rfl ?_
                      refine wp.lo (lo := [(0, .ref 236), (1, vi 1), (2, vi 2)]) ⟨rfl, rfl, rfl, trivial⟩ rfl ?_
                      have b30 := gi_b (lo := 0) (hi := 12) g 238 106 rfl
                      have b31 := gi_b (lo := 0) (hi := 999) g 238 3 rfl
                      have c33 : h 238 i14 = h 238 i14 := rfl
                      have cn32 : canL (h 238) 1 := ⟨(show (1 : Int) + 1 ≤ h 238 1 by omega), (show 1 ≤ h 238 99 by omega), (show h 238 67 ≤ 9998 by omega), (show ((1 ≤ h 238 (43 + (h 238 80).toNat) ∧ h 238 102 < h 238 7) ∨ (h 238 (43 + (h 238 80).toNat) ≤ 0 ∧ h 238 80 - h 238 106 ≤ h 238 3)) by rw [show 43 + (h 238 80).toNat = i14 by omega]; omega)⟩
                      exact I3 1 2 h ⟨rfl, (show (-1 ≤ 1 ∧ 1 ≤ 3) ∧ (0 ≤ 2 ∧ 2 ≤ 4) by omega), (laX.yes 1 (by decide) (by omega) cn32)⟩ (show ((4 : Int) + 1 - 2).toNat < ((4 : Int) + 1 - x2).toNat by omega)
                  ·
                    rw [q27]
                    refine wr_V (k0 := 236) (rest := [vi (h 238 80)]) (as := [.ref 236, vi 3, vi 0]) (nx := 68) (r1 := 258) (r2 := 2) (r3 := 11) rfl rfl rfl (of_decide_eq_true rfl) rfl rfl (by decide) rfl rfl (of_decide_eq_true rfl) (of_decide_eq_true rfl) ?_
                    refine wi_aload_n (i := 0) (x := 236) (nx := 1) (r1 := 0) (r2 := 0) (r3 := 0) rfl rfl ?_
                    refine wr_gr (k0 := 236) (x := 238) (nx := 4) (r1 := 11) (r2 := 13) (r3 := 0) rfl rfl (by decide) rfl ⟨rfl, rfl⟩ rfl ?_
                    refine wi_bipush (n := 74) (nx := 6) (r1 := 0) (r2 := 0) (r3 := 0) rfl (by decide) ?_
                    refine wi_bipush (n := 6) (nx := 8) (r1 := 0) (r2 := 0) (r3 := 0) rfl (by decide) ?_
                    refine wi_iload_n (i := 1) (e := 3) (nx := 9) (r1 := 0) (r2 := 0) (r3 := 0) rfl rfl ?_
                    refine wr_mulL (18) (nx := 10) (r1 := 0) (r2 := 0) (r3 := 0) rfl (by decide) ?_
                    refine wr_addL (92) (nx := 11) (r1 := 0) (r2 := 0) (r3 := 0) rfl (by decide) ?_
                    refine wi_iload_n (i := 2) (e := 0) (nx := 12) (r1 := 0) (r2 := 0) (r3 := 0) rfl rfl ?_
                    refine wr_addL (92) (nx := 13) (r1 := 0) (r2 := 0) (r3 := 0) rfl (by decide) ?_
                    have b28 := gi_b (lo := 0) (hi := 11) g 238 92 rfl
                    refine wr_ia (k0 := 238) (a := 92) (f := 92) (x := h 238 92) (nx := 14) (r1 := 0) (r2 := 0) (r3 := 0) rfl (by decide) rfl (by omega) (by omega) (by decide) rfl ?_
                    refine wi_ireturn (nx := 15) (r1 := 0) (r2 := 0) (r3 := 0) rfl rfl ?_
                    refine wk_i ?_
                    refine wi_icmp (cd := .ge) (nx := 71) (r1 := 73) (r2 := 0) (r3 := 0) rfl (by omega) (by omega) (fun (q29 : (h 238 92) ≤ (h 238 80)) => ?_) (fun (q29 : ¬ ((h 238 92) ≤ (h 238 80))) => ?_)
                    ·
                      refine wr_iincL (i := 2) (n := 1) (v := 1) (2) ([(2, vi 2), (0, .ref 236), (1, vi 3)]) (nx := 76) (r1 := 0) (r2 := 0) (r3 := 0) rfl rfl (by decide) rfl ?_
                      refine wi_goto (nx := 79) (r1 := 4) (r2 := 0) (r3 := 0) rfl ?_
                      refine wp.lo (lo := [(0, .ref 236), (1, vi 3), (2, vi 2)]) ⟨rfl, rfl, rfl, trivial⟩ rfl ?_
                      have b30 := gi_b (lo := 0) (hi := 12) g 238 106 rfl
                      have b31 := gi_b (lo := 0) (hi := 999) g 238 3 rfl
                      have c33 : h 238 i14 = h 238 i14 := rfl
                      have cn32 : canL (h 238) 1 := ⟨(show (1 : Int) + 1 ≤ h 238 1 by omega), (show 1 ≤ h 238 99 by omega), (show h 238 67 ≤ 9998 by omega), (show ((1 ≤ h 238 (43 + (h 238 80).toNat) ∧ h 238 102 < h 238 7) ∨ (h 238 (43 + (h 238 80).toNat) ≤ 0 ∧ h 238 80 - h 238 106 ≤ h 238 3)) by rw [show 43 + (h 238 80).toNat = i14 by omega]; omega)⟩
                      exact I3 3 2 h ⟨rfl, (show (-1 ≤ 3 ∧ 3 ≤ 3) ∧ (0 ≤ 2 ∧ 2 ≤ 4) by omega), (laX.yes 1 (by decide) (by omega) cn32)⟩ (show ((4 : Int) + 1 - 2).toNat < ((4 : Int) + 1 - x2).toNat by omega)
                    ·
                      refine wi_iload_n (i := 2) (e := 1) (nx := 72) (r1 := 0) (r2 := 0) (r3 := 0) rfl rfl ?_
                      refine wi_istore_n (i := 1) (e := 1) (lo2 := [(1, vi 1), (0, .ref 236), (2, vi 1)]) (nx := 73) (r1 := 0) (r2 := 0) (r3 := 0) rfl rfl ?_
                      refine wr_iincL (i := 2) (n := 1) (v := 1) (2) ([(2, vi 2), (1, vi 1), (0, .ref 236)]) (nx := 76) (r1 := 0) (r2 := 0) (r3 := 0) rfl rfl (by decide) rfl ?_
                      refine wi_goto (nx := 79) (r1 := 4) (r2 := 0) (r3 := 0) rfl ?_
                      refine wp.lo (lo := [(0, .ref 236), (1, vi 1), (2, vi 2)]) ⟨rfl, rfl, rfl, trivial⟩ rfl ?_
                      have b30 := gi_b (lo := 0) (hi := 12) g 238 106 rfl
                      have b31 := gi_b (lo := 0) (hi := 999) g 238 3 rfl
                      have c33 : h 238 i14 = h 238 i14 := rfl
                      have cn32 : canL (h 238) 1 := ⟨(show (1 : Int) + 1 ≤ h 238 1 by omega), (show 1 ≤ h 238 99 by omega), (show h 238 67 ≤ 9998 by omega), (show ((1 ≤ h 238 (43 + (h 238 80).toNat) ∧ h 238 102 < h 238 7) ∨ (h 238 (43 + (h 238 80).toNat) ≤ 0 ∧ h 238 80 - h 238 106 ≤ h 238 3)) by rw [show 43 + (h 238 80).toNat = i14 by omega]; omega)⟩
                      exact I3 1 2 h ⟨rfl, (show (-1 ≤ 1 ∧ 1 ≤ 3) ∧ (0 ≤ 2 ∧ 2 ≤ 4) by omega), (laX.yes 1 (by decide) (by omega) cn32)⟩ (show ((4 : Int) + 1 - 2).toNat < ((4 : Int) + 1 - x2).toNat by omega)
              ·
                refine wi_iload_n (i := 2) (e := 1) (nx := 50) (r1 := 0) (r2 := 0) (r3 := 0) rfl rfl ?_
                refine wi_ireturn (nx := 51) (r1 := 0) (r2 := 0) (r3 := 0) rfl rfl ?_
                have b26 := gi_b (lo := 0) (hi := 12) g 238 106 rfl
                have b27 := gi_b (lo := 0) (hi := 999) g 238 3 rfl
                have c29 : h 238 i14 = h 238 i14 := rfl
                have cn28 : canL (h 238) 1 := ⟨(show (1 : Int) + 1 ≤ h 238 1 by omega), (show 1 ≤ h 238 99 by omega), (show h 238 67 ≤ 9998 by omega), (show ((1 ≤ h 238 (43 + (h 238 80).toNat) ∧ h 238 102 < h 238 7) ∨ (h 238 (43 + (h 238 80).toNat) ≤ 0 ∧ h 238 80 - h 238 106 ≤ h 238 3)) by rw [show 43 + (h 238 80).toNat = i14 by omega]; omega)⟩
                exact k 1 (by omega) (laX.yes 1 (by decide) (by omega) cn28)
        ·
          refine wi_iconst (n := 0) (nx := 26) (r1 := 0) (r2 := 0) (r3 := 0) rfl ?_
          refine wi_zreturn (nx := 27) (r1 := 0) (r2 := 0) (r3 := 0) rfl rfl (by omega) ?_
          refine wk_i ?_
          refine wi_if (cd := .ne) (nx := 22) (r1 := 25) (r2 := 0) (r3 := 0) rfl (by omega) (fun (q12 : 0 ≠ 0) => by exfalso; omega) (fun (q12 : ¬ (0 ≠ 0)) => ?_)
          refine wi_goto (nx := 25) (r1 := 73) (r2 := 0) (r3 := 0) rfl ?_
          refine wr_iincL (i := 2) (n := 1) (v := 1) (2) ([(2, vi 2), (0, .ref 236), (1, vi x1)]) (nx := 76) (r1 := 0) (r2 := 0) (r3 := 0) rfl rfl (by decide) rfl ?_
          refine wi_goto (nx := 79) (r1 := 4) (r2 := 0) (r3 := 0) rfl ?_
          refine wp.lo (lo := [(0, .ref 236), (1, vi x1), (2, vi 2)]) ⟨rfl, rfl, rfl, trivial⟩ rfl ?_
          have b13 := gi_b (lo := 0) (hi := 3) g 238 102 rfl
          have b14 := gi_b (lo := 0) (hi := 3) g 238 7 rfl
          have b15 := gi_b (lo := 0) (hi := 11) g 238 80 rfl
          have b16 := gi_b (lo := 0) (hi := 12) g 238 106 rfl
          have b17 := gi_b (lo := 0) (hi := 999) g 238 3 rfl
          have cn18 : ¬ canL (h 238) 1 := fun c => by
            have c1 : (1 : Int) + 1 ≤ h 238 1 := c.1
            have c2 : 1 ≤ h 238 99 := c.2.1
            have c3 : h 238 67 ≤ 9998 := c.2.2.1
            have c4 : ((1 ≤ h 238 (43 + (h 238 80).toNat) ∧ h 238 102 < h 238 7) ∨ (h 238 (43 + (h 238 80).toNat) ≤ 0 ∧ h 238 80 - h 238 106 ≤ h 238 3)) := c.2.2.2
            clear c4; omega
          exact I3 x1 2 h ⟨rfl, (show (-1 ≤ x1 ∧ x1 ≤ 3) ∧ (0 ≤ 2 ∧ 2 ≤ 4) by omega), (laX.no X3_0 (by omega) 1 (by omega) cn18)⟩ (show ((4 : Int) + 1 - 2).toNat < ((4 : Int) + 1 - x2).toNat by omega)
    ·
      rw [q7]
      refine wr_V (k0 := 236) (rest := []) (as := [.ref 236, vi 2]) (nx := 19) (r1 := 267) (r2 := 1) (r3 := 11) rfl rfl rfl (of_decide_eq_true rfl) rfl rfl (by decide) rfl rfl (of_decide_eq_true rfl) (of_decide_eq_true rfl) ?_
      refine wi_aload_n (i := 0) (x := 236) (nx := 1) (r1 := 0) (r2 := 0) (r3 := 0) rfl rfl ?_
      refine wr_gr (k0 := 236) (x := 238) (nx := 4) (r1 := 11) (r2 := 13) (r3 := 0) rfl rfl (by decide) rfl ⟨rfl, rfl⟩ rfl ?_
      refine wi_bipush (n := 98) (nx := 6) (r1 := 0) (r2 := 0) (r3 := 0) rfl (by decide) ?_
      refine wi_iload_n (i := 1) (e := 2) (nx := 7) (r1 := 0) (r2 := 0) (r3 := 0) rfl rfl ?_
      refine wr_addL (100) (nx := 8) (r1 := 0) (r2 := 0) (r3 := 0) rfl (by decide) ?_
      have b8 := gi_b (lo := 0) (hi := 6) g 238 100 rfl
      refine wr_ia (k0 := 238) (a := 100) (f := 100) (x := h 238 100) (nx := 9) (r1 := 0) (r2 := 0) (r3 := 0) rfl (by decide) rfl (by omega) (by omega) (by decide) rfl ?_
      refine wi_if (cd := .eq) (nx := 12) (r1 := 25) (r2 := 0) (r3 := 0) rfl (by omega) (fun (q9 : (h 238 100) = 0) => ?_) (fun (q9 : ¬ ((h 238 100) = 0)) => ?_)
      ·
        refine wi_iconst (n := 0) (nx := 26) (r1 := 0) (r2 := 0) (r3 := 0) rfl ?_
        refine wi_zreturn (nx := 27) (r1 := 0) (r2 := 0) (r3 := 0) rfl rfl (by omega) ?_
        refine wk_i ?_
        refine wi_if (cd := .ne) (nx := 22) (r1 := 25) (r2 := 0) (r3 := 0) rfl (by omega) (fun (q10 : 0 ≠ 0) => by exfalso; omega) (fun (q10 : ¬ (0 ≠ 0)) => ?_)
        refine wi_goto (nx := 25) (r1 := 73) (r2 := 0) (r3 := 0) rfl ?_
        refine wr_iincL (i := 2) (n := 1) (v := 2) (3) ([(2, vi 3), (0, .ref 236), (1, vi x1)]) (nx := 76) (r1 := 0) (r2 := 0) (r3 := 0) rfl rfl (by decide) rfl ?_
        refine wi_goto (nx := 79) (r1 := 4) (r2 := 0) (r3 := 0) rfl ?_
        refine wp.lo (lo := [(0, .ref 236), (1, vi x1), (2, vi 3)]) ⟨rfl, rfl, rfl, trivial⟩ rfl ?_
        have b11 := gi_b (lo := 0) (hi := 9999) g 238 67 rfl
        have b12 := gi_b (lo := 0) (hi := 3) g 238 102 rfl
        have b13 := gi_b (lo := 0) (hi := 3) g 238 7 rfl
        have b14 := gi_b (lo := 0) (hi := 11) g 238 86 rfl
        have b15 := gi_b (lo := 0) (hi := 12) g 238 106 rfl
        have b16 := gi_b (lo := 0) (hi := 999) g 238 3 rfl
        have cn17 : ¬ canL (h 238) 2 := fun c => by
          have c1 : (2 : Int) + 1 ≤ h 238 1 := c.1
          have c2 : 1 ≤ h 238 100 := c.2.1
          have c3 : h 238 67 ≤ 9998 := c.2.2.1
          have c4 : ((1 ≤ h 238 (43 + (h 238 86).toNat) ∧ h 238 102 < h 238 7) ∨ (h 238 (43 + (h 238 86).toNat) ≤ 0 ∧ h 238 86 - h 238 106 ≤ h 238 3)) := c.2.2.2
          clear c4; omega
        exact I3 x1 3 h ⟨rfl, (show (-1 ≤ x1 ∧ x1 ≤ 3) ∧ (0 ≤ 3 ∧ 3 ≤ 4) by omega), (laX.no X3_0 (by omega) 2 (by omega) cn17)⟩ (show ((4 : Int) + 1 - 3).toNat < ((4 : Int) + 1 - x2).toNat by omega)
      ·
        refine wi_aload_n (i := 0) (x := 236) (nx := 13) (r1 := 0) (r2 := 0) (r3 := 0) rfl rfl ?_
        refine wr_gr (k0 := 236) (x := 238) (nx := 16) (r1 := 11) (r2 := 13) (r3 := 0) rfl rfl (by decide) rfl ⟨rfl, rfl⟩ rfl ?_
        refine wi_bipush (n := 67) (nx := 18) (r1 := 0) (r2 := 0) (r3 := 0) rfl (by decide) ?_
        have b10 := gi_b (lo := 0) (hi := 9999) g 238 67 rfl
        refine wr_ia (k0 := 238) (a := 67) (f := 67) (x := h 238 67) (nx := 19) (r1 := 0) (r2 := 0) (r3 := 0) rfl (by decide) rfl (by omega) (by omega) (by decide) rfl ?_
        refine wi_sipush (n := 9999) (nx := 22) (r1 := 0) (r2 := 0) (r3 := 0) rfl (by decide) ?_
        refine wi_icmp (cd := .ne) (nx := 25) (r1 := 27) (r2 := 0) (r3 := 0) rfl (by omega) (by omega) (fun (q11 : (h 238 67) ≠ 9999) => ?_) (fun (q11 : ¬ ((h 238 67) ≠ 9999)) => ?_)
        ·
          refine wi_aload_n (i := 0) (x := 236) (nx := 28) (r1 := 0) (r2 := 0) (r3 := 0) rfl rfl ?_
          refine wi_iload_n (i := 1) (e := 2) (nx := 29) (r1 := 0) (r2 := 0) (r3 := 0) rfl rfl ?_
          refine wi_iconst (n := 0) (nx := 30) (r1 := 0) (r2 := 0) (r3 := 0) rfl ?_
          refine wr_V (k0 := 236) (rest := []) (as := [.ref 236, vi 2, vi 0]) (nx := 33) (r1 := 258) (r2 := 2) (r3 := 11) rfl rfl rfl (of_decide_eq_true rfl) rfl rfl (by decide) rfl rfl (of_decide_eq_true rfl) (of_decide_eq_true rfl) ?_
          refine wi_aload_n (i := 0) (x := 236) (nx := 1) (r1 := 0) (r2 := 0) (r3 := 0) rfl rfl ?_
          refine wr_gr (k0 := 236) (x := 238) (nx := 4) (r1 := 11) (r2 := 13) (r3 := 0) rfl rfl (by decide) rfl ⟨rfl, rfl⟩ rfl ?_
          refine wi_bipush (n := 74) (nx := 6) (r1 := 0) (r2 := 0) (r3 := 0) rfl (by decide) ?_
          refine wi_bipush (n := 6) (nx := 8) (r1 := 0) (r2 := 0) (r3 := 0) rfl (by decide) ?_
          refine wi_iload_n (i := 1) (e := 2) (nx := 9) (r1 := 0) (r2 := 0) (r3 := 0) rfl rfl ?_
          refine wr_mulL (12) (nx := 10) (r1 := 0) (r2 := 0) (r3 := 0) rfl (by decide) ?_
          refine wr_addL (86) (nx := 11) (r1 := 0) (r2 := 0) (r3 := 0) rfl (by decide) ?_
          refine wi_iload_n (i := 2) (e := 0) (nx := 12) (r1 := 0) (r2 := 0) (r3 := 0) rfl rfl ?_
          refine wr_addL (86) (nx := 13) (r1 := 0) (r2 := 0) (r3 := 0) rfl (by decide) ?_
          have b12 := gi_b (lo := 0) (hi := 11) g 238 86 rfl
          refine wr_ia (k0 := 238) (a := 86) (f := 86) (x := h 238 86) (nx := 14) (r1 := 0) (r2 := 0) (r3 := 0) rfl (by decide) rfl (by omega) (by omega) (by decide) rfl ?_
          refine wi_ireturn (nx := 15) (r1 := 0) (r2 := 0) (r3 := 0) rfl rfl ?_
          refine wk_i ?_
          refine wi_istore_n (i := 2) (e := h 238 86) (lo2 := [(2, vi (h 238 86)), (0, .ref 236), (1, vi 2)]) (nx := 34) (r1 := 0) (r2 := 0) (r3 := 0) rfl rfl ?_
          refine wi_aload_n (i := 0) (x := 236) (nx := 35) (r1 := 0) (r2 := 0) (r3 := 0) rfl rfl ?_
          refine wr_gr (k0 := 236) (x := 238) (nx := 38) (r1 := 11) (r2 := 13) (r3 := 0) rfl rfl (by decide) rfl ⟨rfl, rfl⟩ rfl ?_
          refine wi_bipush (n := 43) (nx := 40) (r1 := 0) (r2 := 0) (r3 := 0) rfl (by decide) ?_
          refine wi_iload_n (i := 2) (e := h 238 86) (nx := 41) (r1 := 0) (r2 := 0) (r3 := 0) rfl rfl ?_
          refine wr_add (nx := 42) (r1 := 0) (r2 := 0) (r3 := 0) rfl (fun e13 (fe13 : e13 = 43 + (h 238 86)) => ?_)
          obtain ⟨i14, ei14⟩ : ∃ q : Nat, e13 = (q : Int) := ⟨(e13).toNat, by omega⟩
          have b15 := gi_b (lo := 0) (hi := 999) g 238 i14 (gi_rg 43 12 (fun _ => rfl) (by decide +kernel) (by omega))
          refine wr_ia (k0 := 238) (a := e13) (f := i14) (x := h 238 i14) (nx := 43) (r1 := 0) (r2 := 0) (r3 := 0) rfl (by decide) rfl (by omega) (by omega) (by decide) rfl ?_
          refine wi_if (cd := .le) (nx := 46) (r1 := 71) (r2 := 0) (r3 := 0) rfl (by omega) (fun (q16 : (h 238 i14) ≤ 0) => ?_) (fun (q16 : ¬ ((h 238 i14) ≤ 0)) => ?_)
          ·
            refine wi_iload_n (i := 2) (e := h 238 86) (nx := 72) (r1 := 0) (r2 := 0) (r3 := 0) rfl rfl ?_
            refine wi_aload_n (i := 0) (x := 236) (nx := 73) (r1 := 0) (r2 := 0) (r3 := 0) rfl rfl ?_
            refine wr_gr (k0 := 236) (x := 238) (nx := 76) (r1 := 11) (r2 := 13) (r3 := 0) rfl rfl (by decide) rfl ⟨rfl, rfl⟩ rfl ?_
            refine wi_bipush (n := 106) (nx := 78) (r1 := 0) (r2 := 0) (r3 := 0) rfl (by decide) ?_
            have b17 := gi_b (lo := 0) (hi := 12) g 238 106 rfl
            refine wr_ia (k0 := 238) (a := 106) (f := 106) (x := h 238 106) (nx := 79) (r1 := 0) (r2 := 0) (r3 := 0) rfl (by decide) rfl (by omega) (by omega) (by decide) rfl ?_
            refine wr_sub (nx := 80) (r1 := 0) (r2 := 0) (r3 := 0) rfl (fun e18 (fe18 : e18 = (h 238 86) - (h 238 106)) => ?_)
            refine wi_aload_n (i := 0) (x := 236) (nx := 81) (r1 := 0) (r2 := 0) (r3 := 0) rfl rfl ?_
            refine wr_gr (k0 := 236) (x := 238) (nx := 84) (r1 := 11) (r2 := 13) (r3 := 0) rfl rfl (by decide) rfl ⟨rfl, rfl⟩ rfl ?_
            refine wi_iconst (n := 3) (nx := 85) (r1 := 0) (r2 := 0) (r3 := 0) rfl ?_
            have b19 := gi_b (lo := 0) (hi := 999) g 238 3 rfl
            refine wr_ia (k0 := 238) (a := 3) (f := 3) (x := h 238 3) (nx := 86) (r1 := 0) (r2 := 0) (r3 := 0) rfl (by decide) rfl (by omega) (by omega) (by decide) rfl ?_
            refine wi_icmp (cd := .gt) (nx := 89) (r1 := 93) (r2 := 0) (r3 := 0) rfl (by omega) (by omega) (fun (q20 : (h 238 3) < e18) => ?_) (fun (q20 : ¬ ((h 238 3) < e18)) => ?_)
            ·
              refine wi_iconst (n := 0) (nx := 94) (r1 := 0) (r2 := 0) (r3 := 0) rfl ?_
              refine wi_zreturn (nx := 95) (r1 := 0) (r2 := 0) (r3 := 0) rfl rfl (by omega) ?_
              refine wk_i ?_
              refine wi_if (cd := .ne) (nx := 22) (r1 := 25) (r2 := 0) (r3 := 0) rfl (by omega) (fun (q21 : 0 ≠ 0) => by exfalso; omega) (fun (q21 : ¬ (0 ≠ 0)) => ?_)
              refine wi_goto (nx := 25) (r1 := 73) (r2 := 0) (r3 := 0) rfl ?_
              refine wr_iincL (i := 2) (n := 1) (v := 2) (3) ([(2, vi 3), (0, .ref 236), (1, vi x1)]) (nx := 76) (r1 := 0) (r2 := 0) (r3 := 0) rfl rfl (by decide) rfl ?_
              refine wi_goto (nx := 79) (r1 := 4) (r2 := 0) (r3 := 0) rfl ?_
              refine wp.lo (lo := [(0, .ref 236), (1, vi x1), (2, vi 3)]) ⟨rfl, rfl, rfl, trivial⟩ rfl ?_
              have b22 := gi_b (lo := 0) (hi := 3) g 238 102 rfl
              have b23 := gi_b (lo := 0) (hi := 3) g 238 7 rfl
              have c25 : h 238 i14 = h 238 i14 := rfl
              have cn24 : ¬ canL (h 238) 2 := fun c => by
                have c1 : (2 : Int) + 1 ≤ h 238 1 := c.1
                have c2 : 1 ≤ h 238 100 := c.2.1
                have c3 : h 238 67 ≤ 9998 := c.2.2.1
                have c4 : ((1 ≤ h 238 (43 + (h 238 86).toNat) ∧ h 238 102 < h 238 7) ∨ (h 238 (43 + (h 238 86).toNat) ≤ 0 ∧ h 238 86 - h 238 106 ≤ h 238 3)) := c.2.2.2
                rw [show 43 + (h 238 86).toNat = i14 by omega] at c4; omega
              exact I3 x1 3 h ⟨rfl, (show (-1 ≤ x1 ∧ x1 ≤ 3) ∧ (0 ≤ 3 ∧ 3 ≤ 4) by omega), (laX.no X3_0 (by omega) 2 (by omega) cn24)⟩ (show ((4 : Int) + 1 - 3).toNat < ((4 : Int) + 1 - x2).toNat by omega)
            ·
              refine wi_iconst (n := 1) (nx := 90) (r1 := 0) (r2 := 0) (r3 := 0) rfl ?_
              refine wi_goto (nx := 93) (r1 := 94) (r2 := 0) (r3 := 0) rfl ?_
              refine wi_zreturn (nx := 95) (r1 := 0) (r2 := 0) (r3 := 0) rfl rfl (by omega) ?_
              refine wk_i ?_
              refine wi_if (cd := .ne) (nx := 22) (r1 := 25) (r2 := 0) (r3 := 0) rfl (by omega) (fun (q21 : 1 ≠ 0) => ?_) (fun (q21 : ¬ (1 ≠ 0)) => by exfalso; omega)
              refine wi_aload_n (i := 0) (x := 236) (nx := 26) (r1 := 0) (r2 := 0) (r3 := 0) rfl rfl ?_
              refine wr_gr (k0 := 236) (x := 238) (nx := 29) (r1 := 11) (r2 := 13) (r3 := 0) rfl rfl (by decide) rfl ⟨rfl, rfl⟩ rfl ?_
              refine wi_bipush (n := 31) (nx := 31) (r1 := 0) (r2 := 0) (r3 := 0) rfl (by decide) ?_
              refine wi_aload_n (i := 0) (x := 236) (nx := 32) (r1 := 0) (r2 := 0) (r3 := 0) rfl rfl ?_
              refine wi_iload_n (i := 2) (e := 2) (nx := 33) (r1 := 0) (r2 := 0) (r3 := 0) rfl rfl ?_
              refine wi_iconst (n := 0) (nx := 34) (r1 := 0) (r2 := 0) (r3 := 0) rfl ?_
              refine wr_V (k0 := 236) (rest := [vi 31, .ref 238]) (as := [.ref 236, vi 2, vi 0]) (nx := 37) (r1 := 258) (r2 := 2) (r3 := 11) rfl rfl rfl (of_decide_eq_true rfl) rfl rfl (by decide) rfl rfl (of_decide_eq_true rfl) (of_decide_eq_true rfl) ?_
              refine wi_aload_n (i := 0) (x := 236) (nx := 1) (r1 := 0) (r2 := 0) (r3 := 0) rfl rfl ?_
              refine wr_gr (k0 := 236) (x := 238) (nx := 4) (r1 := 11) (r2 := 13) (r3 := 0) rfl rfl (by decide) rfl ⟨rfl, rfl⟩ rfl ?_
              refine wi_bipush (n := 74) (nx := 6) (r1 := 0) (r2 := 0) (r3 := 0) rfl (by decide) ?_
              refine wi_bipush (n := 6) (nx := 8) (r1 := 0) (r2 := 0) (r3 := 0) rfl (by decide) ?_
              refine wi_iload_n (i := 1) (e := 2) (nx := 9) (r1 := 0) (r2 := 0) (r3 := 0) rfl rfl ?_
              refine wr_mulL (12) (nx := 10) (r1 := 0) (r2 := 0) (r3 := 0) rfl (by decide) ?_
              refine wr_addL (86) (nx := 11) (r1 := 0) (r2 := 0) (r3 := 0) rfl (by decide) ?_
              refine wi_iload_n (i := 2) (e := 0) (nx := 12) (r1 := 0) (r2 := 0) (r3 := 0) rfl rfl ?_
              refine wr_addL (86) (nx := 13) (r1 := 0) (r2 := 0) (r3 := 0) rfl (by decide) ?_
              refine wr_ia (k0 := 238) (a := 86) (f := 86) (x := h 238 86) (nx := 14) (r1 := 0) (r2 := 0) (r3 := 0) rfl (by decide) rfl (by omega) (by omega) (by decide) rfl ?_
              refine wi_ireturn (nx := 15) (r1 := 0) (r2 := 0) (r3 := 0) rfl rfl ?_
              refine wk_i ?_
              refine wr_add (nx := 38) (r1 := 0) (r2 := 0) (r3 := 0) rfl (fun e22 (fe22 : e22 = 31 + (h 238 86)) => ?_)
              obtain ⟨i23, ei23⟩ : ∃ q : Nat, e22 = (q : Int) := ⟨(e22).toNat, by omega⟩
              have b24 := gi_b (lo := 0) (hi := 4) g 238 i23 (gi_rg 31 12 (fun _ => rfl) (by decide +kernel) (by omega))
              refine wr_ia (k0 := 238) (a := e22) (f := i23) (x := h 238 i23) (nx := 39) (r1 := 0) (r2 := 0) (r3 := 0) rfl (by decide) rfl (by omega) (by omega) (by decide) rfl ?_
              refine wi_aload_n (i := 0) (x := 236) (nx := 40) (r1 := 0) (r2 := 0) (r3 := 0) rfl rfl ?_
              refine wr_gr (k0 := 236) (x := 238) (nx := 43) (r1 := 11) (r2 := 13) (r3 := 0) rfl rfl (by decide) rfl ⟨rfl, rfl⟩ rfl ?_
              refine wi_bipush (n := 68) (nx := 45) (r1 := 0) (r2 := 0) (r3 := 0) rfl (by decide) ?_
              have b25 := gi_b (lo := -1) (hi := 4) g 238 68 rfl
              refine wr_ia (k0 := 238) (a := 68) (f := 68) (x := h 238 68) (nx := 46) (r1 := 0) (r2 := 0) (r3 := 0) rfl (by decide) rfl (by omega) (by omega) (by decide) rfl ?_
              refine wi_icmp (cd := .ne) (nx := 49) (r1 := 51) (r2 := 0) (r3 := 0) rfl (by omega) (by omega) (fun (q26 : (h 238 i23) ≠ (h 238 68)) => ?_) (fun (q26 : ¬ ((h 238 i23) ≠ (h 238 68))) => ?_)
              ·
                refine wi_iload_n (i := 1) (e := x1) (nx := 52) (r1 := 0) (r2 := 0) (r3 := 0) rfl rfl ?_
                refine wi_iconst (n := (-1)) (nx := 53) (r1 := 0) (r2 := 0) (r3 := 0) rfl ?_
                refine wi_icmp (cd := .eq) (nx := 56) (r1 := 71) (r2 := 0) (r3 := 0) rfl (by omega) (by omega) (fun (q27 : x1 = (-1)) => ?_) (fun (q27 : ¬ (x1 = (-1))) => ?_)
                ·
                  refine wi_iload_n (i := 2) (e := 2) (nx := 72) (r1 := 0) (r2 := 0) (r3 := 0) rfl rfl ?_
                  refine wi_istore_n (i := 1) (e := 2) (lo2 := [(1, vi 2), (0, .ref 236), (2, vi 2)]) (nx := 73) (r1 := 0) (r2 := 0) (r3 := 0) rfl rfl ?_
                  refine wr_iincL (i := 2) (n := 1) (v := 2) (3) ([(2, vi 3), (1, vi 2), (0, .ref 236)]) (nx := 76) (r1 := 0) (r2 := 0) (r3 := 0) rfl rfl (by decide) rfl ?_
                  refine wi_goto (nx := 79) (r1 := 4) (r2 := 0) (r3 := 0) rfl ?_
                  refine wp.lo (lo := [(0, .ref 236), (1, vi 2), (2, vi 3)]) ⟨rfl, rfl, rfl, trivial⟩ rfl ?_
                  have b28 := gi_b (lo := 0) (hi := 3) g 238 102 rfl
                  have b29 := gi_b (lo := 0) (hi := 3) g 238 7 rfl
                  have c31 : h 238 i14 = h 238 i14 := rfl
                  have cn30 : canL (h 238) 2 := ⟨(show (2 : Int) + 1 ≤ h 238 1 by omega), (show 1 ≤ h 238 100 by omega), (show h 238 67 ≤ 9998 by omega), (show ((1 ≤ h 238 (43 + (h 238 86).toNat) ∧ h 238 102 < h 238 7) ∨ (h 238 (43 + (h 238 86).toNat) ≤ 0 ∧ h 238 86 - h 238 106 ≤ h 238 3)) by rw [show 43 + (h 238 86).toNat = i14 by omega]; omega)⟩
                  exact I3 2 3 h ⟨rfl, (show (-1 ≤ 2 ∧ 2 ≤ 3) ∧ (0 ≤ 3 ∧ 3 ≤ 4) by omega), (laX.yes 2 (by decide) (by omega) cn30)⟩ (show ((4 : Int) + 1 - 3).toNat < ((4 : Int) + 1 - x2).toNat by omega)
                ·
                  refine wi_aload_n (i := 0) (x := 236) (nx := 57) (r1 := 0) (r2 := 0) (r3 := 0) rfl rfl ?_
                  refine wi_iload_n (i := 2) (e := 2) (nx := 58) (r1 := 0) (r2 := 0) (r3 := 0) rfl rfl ?_
                  refine wi_iconst (n := 0) (nx := 59) (r1 := 0) (r2 := 0) (r3 := 0) rfl ?_
                  refine wr_V (k0 := 236) (rest := []) (as := [.ref 236, vi 2, vi 0]) (nx := 62) (r1 := 258) (r2 := 2) (r3 := 11) rfl rfl rfl (of_decide_eq_true rfl) rfl rfl (by decide) rfl rfl (of_decide_eq_true rfl) (of_decide_eq_true rfl) ?_
                  refine wi_aload_n (i := 0) (x := 236) (nx := 1) (r1 := 0) (r2 := 0) (r3 := 0) rfl rfl ?_
                  refine wr_gr (k0 := 236) (x := 238) (nx := 4) (r1 := 11) (r2 := 13) (r3 := 0) rfl rfl (by decide) rfl ⟨rfl, rfl⟩ rfl ?_
                  refine wi_bipush (n := 74) (nx := 6) (r1 := 0) (r2 := 0) (r3 := 0) rfl (by decide) ?_
                  refine wi_bipush (n := 6) (nx := 8) (r1 := 0) (r2 := 0) (r3 := 0) rfl (by decide) ?_
                  refine wi_iload_n (i := 1) (e := 2) (nx := 9) (r1 := 0) (r2 := 0) (r3 := 0) rfl rfl ?_
                  refine wr_mulL (12) (nx := 10) (r1 := 0) (r2 := 0) (r3 := 0) rfl (by decide) ?_
                  refine wr_addL (86) (nx := 11) (r1 := 0) (r2 := 0) (r3 := 0) rfl (by decide) ?_
                  refine wi_iload_n (i := 2) (e := 0) (nx := 12) (r1 := 0) (r2 := 0) (r3 := 0) rfl rfl ?_
                  refine wr_addL (86) (nx := 13) (r1 := 0) (r2 := 0) (r3 := 0) rfl (by decide) ?_
                  refine wr_ia (k0 := 238) (a := 86) (f := 86) (x := h 238 86) (nx := 14) (r1 := 0) (r2 := 0) (r3 := 0) rfl (by decide) rfl (by omega) (by omega) (by decide) rfl ?_
                  refine wi_ireturn (nx := 15) (r1 := 0) (r2 := 0) (r3 := 0) rfl rfl ?_
                  refine wk_i ?_
                  refine wi_aload_n (i := 0) (x := 236) (nx := 63) (r1 := 0) (r2 := 0) (r3 := 0) rfl rfl ?_
                  refine wi_iload_n (i := 1) (e := x1) (nx := 64) (r1 := 0) (r2 := 0) (r3 := 0) rfl rfl ?_
                  refine wi_iconst (n := 0) (nx := 65) (r1 := 0) (r2 := 0) (r3 := 0) rfl ?_
                  rcases (show x1 = 0 ∨ x1 = 1 ∨ x1 = 2 ∨ x1 = 3 by omega) with q28 | q28 | q28 | q28
                  ·
                    rw [q28]
                    refine wr_V (k0 := 236) (rest := [vi (h 238 86)]) (as := [.ref 236, vi 0, vi 0]) (nx := 68) (r1 := 258) (r2 := 2) (r3 := 11) rfl rfl rfl (of_decide_eq_true rfl) rfl rfl (by decide) rfl rfl (of_decide_eq_true rfl) (of_decide_eq_true rfl) ?_
                    refine wi_aload_n (i := 0) (x := 236) (nx := 1) (r1 := 0) (r2 := 0) (r3 := 0) rfl rfl ?_
                    refine wr_gr (k0 := 236) (x := 238) (nx := 4) (r1 := 11) (r2 := 13) (r3 := 0) rfl rfl (by decide) rfl ⟨rfl, rfl⟩ rfl ?_
                    refine wi_bipush (n := 74) (nx := 6) (r1 := 0) (r2 := 0) (r3 := 0) rfl (by decide) ?_
                    refine wi_bipush (n := 6) (nx := 8) (r1 := 0) (r2 := 0) (r3 := 0) rfl (by decide) ?_
                    refine wi_iload_n (i := 1) (e := 0) (nx := 9) (r1 := 0) (r2 := 0) (r3 := 0) rfl rfl ?_
                    refine wr_mulL (0) (nx := 10) (r1 := 0) (r2 := 0) (r3 := 0) rfl (by decide) ?_
                    refine wr_addL (74) (nx := 11) (r1 := 0) (r2 := 0) (r3 := 0) rfl (by decide) ?_
                    refine wi_iload_n (i := 2) (e := 0) (nx := 12) (r1 := 0) (r2 := 0) (r3 := 0) rfl rfl ?_
                    refine wr_addL (74) (nx := 13) (r1 := 0) (r2 := 0) (r3 := 0) rfl (by decide) ?_
                    have b29 := gi_b (lo := 0) (hi := 11) g 238 74 rfl
                    refine wr_ia (k0 := 238) (a := 74) (f := 74) (x := h 238 74) (nx := 14) (r1 := 0) (r2 := 0) (r3 := 0) rfl (by decide) rfl (by omega) (by omega) (by decide) rfl ?_
                    refine wi_ireturn (nx := 15) (r1 := 0) (r2 := 0) (r3 := 0) rfl rfl ?_
                    refine wk_i ?_
                    refine wi_icmp (cd := .ge) (nx := 71) (r1 := 73) (r2 := 0) (r3 := 0) rfl (by omega) (by omega) (fun (q30 : (h 238 74) ≤ (h 238 86)) => ?_) (fun (q30 : ¬ ((h 238 74) ≤ (h 238 86))) => ?_)
                    ·
                      refine wr_iincL (i := 2) (n := 1) (v := 2) (3) ([(2, vi 3), (0, .ref 236), (1, vi 0)]) (nx := 76) (r1 := 0) (r2 := 0) (r3 := 0) rfl rfl (by decide) rfl ?_
                      refine wi_goto (nx := 79) (r1 := 4) (r2 := 0) (r3 := 0) rfl ?_
                      refine wp.lo (lo := [(0, .ref 236), (1, vi 0), (2, vi 3)]) ⟨rfl, rfl, rfl, trivial⟩ rfl ?_
                      have b31 := gi_b (lo := 0) (hi := 3) g 238 102 rfl
                      have b32 := gi_b (lo := 0) (hi := 3) g 238 7 rfl
                      have c34 : h 238 i14 = h 238 i14 := rfl
                      have cn33 : canL (h 238) 2 := ⟨(show (2 : Int) + 1 ≤ h 238 1 by omega), (show 1 ≤ h 238 100 by omega), (show h 238 67 ≤ 9998 by omega), (show ((1 ≤ h 238 (43 + (h 238 86).toNat) ∧ h 238 102 < h 238 7) ∨ (h 238 (43 + (h 238 86).toNat) ≤ 0 ∧ h 238 86 - h 238 106 ≤ h 238 3)) by rw [show 43 + (h 238 86).toNat = i14 by omega]; omega)⟩
                      exact I3 0 3 h ⟨rfl, (show (-1 ≤ 0 ∧ 0 ≤ 3) ∧ (0 ≤ 3 ∧ 3 ≤ 4) by omega), (laX.yes 2 (by decide) (by omega) cn33)⟩ (show ((4 : Int) + 1 - 3).toNat < ((4 : Int) + 1 - x2).toNat by omega)
                    ·
                      refine wi_iload_n (i := 2) (e := 2) (nx := 72) (r1 := 0) (r2 := 0) (r3 := 0) rfl rfl ?_
                      refine wi_istore_n (i := 1) (e := 2) (lo2 := [(1, vi 2), (0, .ref 236), (2, vi 2)]) (nx := 73) (r1 := 0) (r2 := 0) (r3 := 0) rfl rfl ?_
                      refine wr_iincL (i := 2) (n := 1) (v := 2) (3) ([(2, vi 3), (1, vi 2), (0, .ref 236)]) (nx := 76) (r1 := 0) (r2 := 0) (r3 := 0) rfl rfl (by decide) rfl ?_
                      refine wi_goto (nx := 79) (r1 := 4) (r2 := 0) (r3 := 0) rfl ?_
                      refine wp.lo (lo := [(0, .ref 236), (1, vi 2), (2, vi 3)]) ⟨rfl, rfl, rfl, trivial⟩ rfl ?_
                      have b31 := gi_b (lo := 0) (hi := 3) g 238 102 rfl
                      have b32 := gi_b (lo := 0) (hi := 3) g 238 7 rfl
                      have c34 : h 238 i14 = h 238 i14 := rfl
                      have cn33 : canL (h 238) 2 := ⟨(show (2 : Int) + 1 ≤ h 238 1 by omega), (show 1 ≤ h 238 100 by omega), (show h 238 67 ≤ 9998 by omega), (show ((1 ≤ h 238 (43 + (h 238 86).toNat) ∧ h 238 102 < h 238 7) ∨ (h 238 (43 + (h 238 86).toNat) ≤ 0 ∧ h 238 86 - h 238 106 ≤ h 238 3)) by rw [show 43 + (h 238 86).toNat = i14 by omega]; omega)⟩
                      exact I3 2 3 h ⟨rfl, (show (-1 ≤ 2 ∧ 2 ≤ 3) ∧ (0 ≤ 3 ∧ 3 ≤ 4) by omega), (laX.yes 2 (by decide) (by omega) cn33)⟩ (show ((4 : Int) + 1 - 3).toNat < ((4 : Int) + 1 - x2).toNat by omega)
                  ·
                    rw [q28]
                    refine wr_V (k0 := 236) (rest := [vi (h 238 86)]) (as := [.ref 236, vi 1, vi 0]) (nx := 68) (r1 := 258) (r2 := 2) (r3 := 11) rfl rfl rfl (of_decide_eq_true rfl) rfl rfl (by decide) rfl rfl (of_decide_eq_true rfl) (of_decide_eq_true rfl) ?_
                    refine wi_aload_n (i := 0) (x := 236) (nx := 1) (r1 := 0) (r2 := 0) (r3 := 0) rfl rfl ?_
                    refine wr_gr (k0 := 236) (x := 238) (nx := 4) (r1 := 11) (r2 := 13) (r3 := 0) rfl rfl (by decide) rfl ⟨rfl, rfl⟩ rfl ?_
                    refine wi_bipush (n := 74) (nx := 6) (r1 := 0) (r2 := 0) (r3 := 0) rfl (by decide) ?_
                    refine wi_bipush (n := 6) (nx := 8) (r1 := 0) (r2 := 0) (r3 := 0) rfl (by decide) ?_
                    refine wi_iload_n (i := 1) (e := 1) (nx := 9) (r1 := 0) (r2 := 0) (r3 := 0) rfl rfl ?_
                    refine wr_mulL (6) (nx := 10) (r1 := 0) (r2 := 0) (r3 := 0) rfl (by decide) ?_
                    refine wr_addL (80) (nx := 11) (r1 := 0) (r2 := 0) (r3 := 0) rfl (by decide) ?_
                    refine wi_iload_n (i := 2) (e := 0) (nx := 12) (r1 := 0) (r2 := 0) (r3 := 0) rfl rfl ?_
                    refine wr_addL (80) (nx := 13) (r1 := 0) (r2 := 0) (r3 := 0) rfl (by decide) ?_
                    have b29 := gi_b (lo := 0) (hi := 11) g 238 80 rfl
                    refine wr_ia (k0 := 238) (a := 80) (f := 80) (x := h 238 80) (nx := 14) (r1 := 0) (r2 := 0) (r3 := 0) rfl (by decide) rfl (by omega) (by omega) (by decide) rfl ?_
                    refine wi_ireturn (nx := 15) (r1 := 0) (r2 := 0) (r3 := 0) rfl rfl ?_
                    refine wk_i ?_
                    refine wi_icmp (cd := .ge) (nx := 71) (r1 := 73) (r2 := 0) (r3 := 0) rfl (by omega) (by omega) (fun (q30 : (h 238 80) ≤ (h 238 86)) => ?_) (fun (q30 : ¬ ((h 238 80) ≤ (h 238 86))) => ?_)
                    ·
                      refine wr_iincL (i := 2) (n := 1) (v := 2) (3) ([(2, vi 3), (0, .ref 236), (1, vi 1)]) (nx := 76) (r1 := 0) (r2 := 0) (r3 := 0) rfl rfl (by decide) rfl ?_
                      refine wi_goto (nx := 79) (r1 := 4) (r2 := 0) (r3 := 0) rfl ?_
                      refine wp.lo (lo := [(0, .ref 236), (1, vi 1), (2, vi 3)]) ⟨rfl, rfl, rfl, trivial⟩ rfl ?_
                      have b31 := gi_b (lo := 0) (hi := 3) g 238 102 rfl
                      have b32 := gi_b (lo := 0) (hi := 3) g 238 7 rfl
                      have c34 : h 238 i14 = h 238 i14 := rfl
                      have cn33 : canL (h 238) 2 := ⟨(show (2 : Int) + 1 ≤ h 238 1 by omega), (show 1 ≤ h 238 100 by omega), (show h 238 67 ≤ 9998 by omega), (show ((1 ≤ h 238 (43 + (h 238 86).toNat) ∧ h 238 102 < h 238 7) ∨ (h 238 (43 + (h 238 86).toNat) ≤ 0 ∧ h 238 86 - h 238 106 ≤ h 238 3)) by rw [show 43 + (h 238 86).toNat = i14 by omega]; omega)⟩
                      exact I3 1 3 h ⟨rfl, (show (-1 ≤ 1 ∧ 1 ≤ 3) ∧ (0 ≤ 3 ∧ 3 ≤ 4) by omega), (laX.yes 2 (by decide) (by omega) cn33)⟩ (show ((4 : Int) + 1 - 3).toNat < ((4 : Int) + 1 - x2).toNat by omega)
                    ·
                      refine wi_iload_n (i := 2) (e := 2) (nx := 72) (r1 := 0) (r2 := 0) (r3 := 0) rfl rfl ?_
                      refine wi_istore_n (i := 1) (e := 2) (lo2 := [(1, vi 2), (0, .ref 236), (2, vi 2)]) (nx := 73) (r1 := 0) (r2 := 0) (r3 := 0) rfl rfl ?_
                      refine wr_iincL (i := 2) (n := 1) (v := 2) (3) ([(2, vi 3), (1, vi 2), (0, .ref 236)]) (nx := 76) (r1 := 0) (r2 := 0) (r3 := 0) rfl rfl (by decide) rfl ?_
                      refine wi_goto (nx := 79) (r1 := 4) (r2 := 0) (r3 := 0) rfl ?_
                      refine wp.lo (lo := [(0, .ref 236), (1, vi 2), (2, vi 3)]) ⟨rfl, rfl, rfl, trivial⟩ rfl ?_
                      have b31 := gi_b (lo := 0) (hi := 3) g 238 102 rfl
                      have b32 := gi_b (lo := 0) (hi := 3) g 238 7 rfl
                      have c34 : h 238 i14 = h 238 i14 := rfl
                      have cn33 : canL (h 238) 2 := ⟨(show (2 : Int) + 1 ≤ h 238 1 by omega), (show 1 ≤ h 238 100 by omega), (show h 238 67 ≤ 9998 by omega), (show ((1 ≤ h 238 (43 + (h 238 86).toNat) ∧ h 238 102 < h 238 7) ∨ (h 238 (43 + (h 238 86).toNat) ≤ 0 ∧ h 238 86 - h 238 106 ≤ h 238 3)) by rw [show 43 + (h 238 86).toNat = i14 by omega]; omega)⟩
                      exact I3 2 3 h ⟨rfl, (show (-1 ≤ 2 ∧ 2 ≤ 3) ∧ (0 ≤ 3 ∧ 3 ≤ 4) by omega), (laX.yes 2 (by decide) (by omega) cn33)⟩ (show ((4 : Int) + 1 - 3).toNat < ((4 : Int) + 1 - x2).toNat by omega)
                  ·
                    rw [q28]
                    refine wr_V (k0 := 236) (rest := [vi (h 238 86)]) (as := [.ref 236, vi 2, vi 0]) (nx := 68) (r1 := 258) (r2 := 2) (r3 := 11) rfl rfl rfl (of_decide_eq_true rfl) rfl rfl (by decide) rfl rfl (of_decide_eq_true rfl) (of_decide_eq_true rfl) ?_
                    refine wi_aload_n (i := 0) (x := 236) (nx := 1) (r1 := 0) (r2 := 0) (r3 := 0) rfl rfl ?_
                    refine wr_gr (k0 := 236) (x := 238) (nx := 4) (r1 := 11) (r2 := 13) (r3 := 0) rfl rfl (by decide) rfl ⟨rfl, rfl⟩ rfl ?_
                    refine wi_bipush (n := 74) (nx := 6) (r1 := 0) (r2 := 0) (r3 := 0) rfl (by decide) ?_
                    refine wi_bipush (n := 6) (nx := 8) (r1 := 0) (r2 := 0) (r3 := 0) rfl (by decide) ?_
                    refine wi_iload_n (i := 1) (e := 2) (nx := 9) (r1 := 0) (r2 := 0) (r3 := 0) rfl rfl ?_
                    refine wr_mulL (12) (nx := 10) (r1 := 0) (r2 := 0) (r3 := 0) rfl (by decide) ?_
                    refine wr_addL (86) (nx := 11) (r1 := 0) (r2 := 0) (r3 := 0) rfl (by decide) ?_
                    refine wi_iload_n (i := 2) (e := 0) (nx := 12) (r1 := 0) (r2 := 0) (r3 := 0) rfl rfl ?_
                    refine wr_addL (86) (nx := 13) (r1 := 0) (r2 := 0) (r3 := 0) rfl (by decide) ?_
                    refine wr_ia (k0 := 238) (a := 86) (f := 86) (x := h 238 86) (nx := 14) (r1 := 0) (r2 := 0) (r3 := 0) rfl (by decide) rfl (by omega) (by omega) (by decide) rfl ?_
                    refine wi_ireturn (nx := 15) (r1 := 0) (r2 := 0) (r3 := 0) rfl rfl ?_
                    refine wk_i ?_
                    refine wi_icmp (cd := .ge) (nx := 71) (r1 := 73) (r2 := 0) (r3 := 0) rfl (by omega) (by omega) (fun (q29 : (h 238 86) ≤ (h 238 86)) => ?_) (fun (q29 : ¬ ((h 238 86) ≤ (h 238 86))) => by exfalso; omega)
                    refine wr_iincL (i := 2) (n := 1) (v := 2) (3) ([(2, vi 3), (0, .ref 236), (1, vi 2)]) (nx := 76) (r1 := 0) (r2 := 0) (r3 := 0) rfl rfl (by decide) rfl ?_
                    refine wi_goto (nx := 79) (r1 := 4) (r2 := 0) (r3 := 0) rfl ?_
                    refine wp.lo (lo := [(0, .ref 236), (1, vi 2), (2, vi 3)]) ⟨rfl, rfl, rfl, trivial⟩ rfl ?_
                    have b30 := gi_b (lo := 0) (hi := 3) g 238 102 rfl
                    have b31 := gi_b (lo := 0) (hi := 3) g 238 7 rfl
                    have c33 : h 238 i14 = h 238 i14 := rfl
                    have cn32 : canL (h 238) 2 := ⟨(show (2 : Int) + 1 ≤ h 238 1 by omega), (show 1 ≤ h 238 100 by omega), (show h 238 67 ≤ 9998 by omega), (show ((1 ≤ h 238 (43 + (h 238 86).toNat) ∧ h 238 102 < h 238 7) ∨ (h 238 (43 + (h 238 86).toNat) ≤ 0 ∧ h 238 86 - h 238 106 ≤ h 238 3)) by rw [show 43 + (h 238 86).toNat = i14 by omega]; omega)⟩
                    exact I3 2 3 h ⟨rfl, (show (-1 ≤ 2 ∧ 2 ≤ 3) ∧ (0 ≤ 3 ∧ 3 ≤ 4) by omega), (laX.yes 2 (by decide) (by omega) cn32)⟩ (show ((4 : Int) + 1 - 3).toNat < ((4 : Int) + 1 - x2).toNat by omega)
                  ·
                    rw [q28]
                    refine wr_V (k0 := 236) (rest := [vi (h 238 86)]) (as := [.ref 236, vi 3, vi 0]) (nx := 68) (r1 := 258) (r2 := 2) (r3 := 11) rfl rfl rfl (of_decide_eq_true rfl) rfl rfl (by decide) rfl rfl (of_decide_eq_true rfl) (of_decide_eq_true rfl) ?_
                    refine wi_aload_n (i := 0) (x := 236) (nx := 1) (r1 := 0) (r2 := 0) (r3 := 0) rfl rfl ?_
                    refine wr_gr (k0 := 236) (x := 238) (nx := 4) (r1 := 11) (r2 := 13) (r3 := 0) rfl rfl (by decide) rfl ⟨rfl, rfl⟩ rfl ?_
                    refine wi_bipush (n := 74) (nx := 6) (r1 := 0) (r2 := 0) (r3 := 0) rfl (by decide) ?_
                    refine wi_bipush (n := 6) (nx := 8) (r1 := 0) (r2 := 0) (r3 := 0) rfl (by decide) ?_
                    refine wi_iload_n (i := 1) (e := 3) (nx := 9) (r1 := 0) (r2 := 0) (r3 := 0) rfl rfl ?_
                    refine wr_mulL (18) (nx := 10) (r1 := 0) (r2 := 0) (r3 := 0) rfl (by decide) ?_
                    refine wr_addL (92) (nx := 11) (r1 := 0) (r2 := 0) (r3 := 0) rfl (by decide) ?_
                    refine wi_iload_n (i := 2) (e := 0) (nx := 12) (r1 := 0) (r2 := 0) (r3 := 0) rfl rfl ?_
                    refine wr_addL (92) (nx := 13) (r1 := 0) (r2 := 0) (r3 := 0) rfl (by decide) ?_
                    have b29 := gi_b (lo := 0) (hi := 11) g 238 92 rfl
                    refine wr_ia (k0 := 238) (a := 92) (f := 92) (x := h 238 92) (nx := 14) (r1 := 0) (r2 := 0) (r3 := 0) rfl (by decide) rfl (by omega) (by omega) (by decide) rfl ?_
                    refine wi_ireturn (nx := 15) (r1 := 0) (r2 := 0) (r3 := 0) rfl rfl ?_
                    refine wk_i ?_
                    refine wi_icmp (cd := .ge) (nx := 71) (r1 := 73) (r2 := 0) (r3 := 0) rfl (by omega) (by omega) (fun (q30 : (h 238 92) ≤ (h 238 86)) => ?_) (fun (q30 : ¬ ((h 238 92) ≤ (h 238 86))) => ?_)
                    ·
                      refine wr_iincL (i := 2) (n := 1) (v := 2) (3) ([(2, vi 3), (0, .ref 236), (1, vi 3)]) (nx := 76) (r1 := 0) (r2 := 0) (r3 := 0) rfl rfl (by decide) rfl ?_
                      refine wi_goto (nx := 79) (r1 := 4) (r2 := 0) (r3 := 0) rfl ?_
                      refine wp.lo (lo := [(0, .ref 236), (1, vi 3), (2, vi 3)]) ⟨rfl, rfl, rfl, trivial⟩ rfl ?_
                      have b31 := gi_b (lo := 0) (hi := 3) g 238 102 rfl
                      have b32 := gi_b (lo := 0) (hi := 3) g 238 7 rfl
                      have c34 : h 238 i14 = h 238 i14 := rfl
                      have cn33 : canL (h 238) 2 := ⟨(show (2 : Int) + 1 ≤ h 238 1 by omega), (show 1 ≤ h 238 100 by omega), (show h 238 67 ≤ 9998 by omega), (show ((1 ≤ h 238 (43 + (h 238 86).toNat) ∧ h 238 102 < h 238 7) ∨ (h 238 (43 + (h 238 86).toNat) ≤ 0 ∧ h 238 86 - h 238 106 ≤ h 238 3)) by rw [show 43 + (h 238 86).toNat = i14 by omega]; omega)⟩
                      exact I3 3 3 h ⟨rfl, (show (-1 ≤ 3 ∧ 3 ≤ 3) ∧ (0 ≤ 3 ∧ 3 ≤ 4) by omega), (laX.yes 2 (by decide) (by omega) cn33)⟩ (show ((4 : Int) + 1 - 3).toNat < ((4 : Int) + 1 - x2).toNat by omega)
                    ·
                      refine wi_iload_n (i := 2) (e := 2) (nx := 72) (r1 := 0) (r2 := 0) (r3 := 0) rfl rfl ?_
                      refine wi_istore_n (i := 1) (e := 2) (lo2 := [(1, vi 2), (0, .ref 236), (2, vi 2)]) (nx := 73) (r1 := 0) (r2 := 0) (r3 := 0) rfl rfl ?_
                      refine wr_iincL (i := 2) (n := 1) (v := 2) (3) ([(2, vi 3), (1, vi 2), (0, .ref 236)]) (nx := 76) (r1 := 0) (r2 := 0) (r3 := 0) rfl rfl (by decide) rfl ?_
                      refine wi_goto (nx := 79) (r1 := 4) (r2 := 0) (r3 := 0) rfl ?_
                      refine wp.lo (lo := [(0, .ref 236), (1, vi 2), (2, vi 3)]) ⟨rfl, rfl, rfl, trivial⟩ rfl ?_
                      have b31 := gi_b (lo := 0) (hi := 3) g 238 102 rfl
                      have b32 := gi_b (lo := 0) (hi := 3) g 238 7 rfl
                      have c34 : h 238 i14 = h 238 i14 := rfl
                      have cn33 : canL (h 238) 2 := ⟨(show (2 : Int) + 1 ≤ h 238 1 by omega), (show 1 ≤ h 238 100 by omega), (show h 238 67 ≤ 9998 by omega), (show ((1 ≤ h 238 (43 + (h 238 86).toNat) ∧ h 238 102 < h 238 7) ∨ (h 238 (43 + (h 238 86).toNat) ≤ 0 ∧ h 238 86 - h 238 106 ≤ h 238 3)) by rw [show 43 + (h 238 86).toNat = i14 by omega]; omega)⟩
                      exact I3 2 3 h ⟨rfl, (show (-1 ≤ 2 ∧ 2 ≤ 3) ∧ (0 ≤ 3 ∧ 3 ≤ 4) by omega), (laX.yes 2 (by decide) (by omega) cn33)⟩ (show ((4 : Int) + 1 - 3).toNat < ((4 : Int) + 1 - x2).toNat by omega)
              ·
                refine wi_iload_n (i := 2) (e := 2) (nx := 50) (r1 := 0) (r2 := 0) (r3 := 0) rfl rfl ?_
                refine wi_ireturn (nx := 51) (r1 := 0) (r2 := 0) (r3 := 0) rfl rfl ?_
                have b27 := gi_b (lo := 0) (hi := 3) g 238 102 rfl
                have b28 := gi_b (lo := 0) (hi := 3) g 238 7 rfl
                have c30 : h 238 i14 = h 238 i14 := rfl
                have cn29 : canL (h 238) 2 := ⟨(show (2 : Int) + 1 ≤ h 238 1 by omega), (show 1 ≤ h 238 100 by omega), (show h 238 67 ≤ 9998 by omega), (show ((1 ≤ h 238 (43 + (h 238 86).toNat) ∧ h 238 102 < h 238 7) ∨ (h 238 (43 + (h 238 86).toNat) ≤ 0 ∧ h 238 86 - h 238 106 ≤ h 238 3)) by rw [show 43 + (h 238 86).toNat = i14 by omega]; omega)⟩
                exact k 2 (by omega) (laX.yes 2 (by decide) (by omega) cn29)
          ·
            refine wi_aload_n (i := 0) (x := 236) (nx := 47) (r1 := 0) (r2 := 0) (r3 := 0) rfl rfl ?_
            refine wr_gr (k0 := 236) (x := 238) (nx := 50) (r1 := 11) (r2 := 13) (r3 := 0) rfl rfl (by decide) rfl ⟨rfl, rfl⟩ rfl ?_
            refine wi_bipush (n := 102) (nx := 52) (r1 := 0) (r2 := 0) (r3 := 0) rfl (by decide) ?_
            have b17 := gi_b (lo := 0) (hi := 3) g 238 102 rfl
            refine wr_ia (k0 := 238) (a := 102) (f := 102) (x := h 238 102) (nx := 53) (r1 := 0) (r2 := 0) (r3 := 0) rfl (by decide) rfl (by omega) (by omega) (by decide) rfl ?_
            refine wi_aload_n (i := 0) (x := 236) (nx := 54) (r1 := 0) (r2 := 0) (r3 := 0) rfl rfl ?_
            refine wr_gr (k0 := 236) (x := 238) (nx := 57) (r1 := 11) (r2 := 13) (r3 := 0) rfl rfl (by decide) rfl ⟨rfl, rfl⟩ rfl ?_
            refine wi_bipush (n := 7) (nx := 59) (r1 := 0) (r2 := 0) (r3 := 0) rfl (by decide) ?_
            have b18 := gi_b (lo := 0) (hi := 3) g 238 7 rfl
            refine wr_ia (k0 := 238) (a := 7) (f := 7) (x := h 238 7) (nx := 60) (r1 := 0) (r2 := 0) (r3 := 0) rfl (by decide) rfl (by omega) (by omega) (by decide) rfl ?_
            refine wi_icmp (cd := .ge) (nx := 63) (r1 := 67) (r2 := 0) (r3 := 0) rfl (by omega) (by omega) (fun (q19 : (h 238 7) ≤ (h 238 102)) => ?_) (fun (q19 : ¬ ((h 238 7) ≤ (h 238 102))) => ?_)
            ·
              refine wi_iconst (n := 0) (nx := 68) (r1 := 0) (r2 := 0) (r3 := 0) rfl ?_
              refine wi_goto (nx := 71) (r1 := 94) (r2 := 0) (r3 := 0) rfl ?_
              refine wi_zreturn (nx := 95) (r1 := 0) (r2 := 0) (r3 := 0) rfl rfl (by omega) ?_
              refine wk_i ?_
              refine wi_if (cd := .ne) (nx := 22) (r1 := 25) (r2 := 0) (r3 := 0) rfl (by omega) (fun (q20 : 0 ≠ 0) => by exfalso; omega) (fun (q20 : ¬ (0 ≠ 0)) => ?_)
              refine wi_goto (nx := 25) (r1 := 73) (r2 := 0) (r3 := 0) rfl ?_
              refine wr_iincL (i := 2) (n := 1) (v := 2) (3) ([(2, vi 3), (0, .ref 236), (1, vi x1)]) (nx := 76) (r1 := 0) (r2 := 0) (r3 := 0) rfl rfl (by decide) rfl ?_
              refine wi_goto (nx := 79) (r1 := 4) (r2 := 0) (r3 := 0) rfl ?_
              refine wp.lo (lo := [(0, .ref 236), (1, vi x1), (2, vi 3)]) ⟨rfl, rfl, rfl, trivial⟩ rfl ?_
              have b21 := gi_b (lo := 0) (hi := 12) g 238 106 rfl
              have b22 := gi_b (lo := 0) (hi := 999) g 238 3 rfl
              have c24 : h 238 i14 = h 238 i14 := rfl
              have cn23 : ¬ canL (h 238) 2 := fun c => by
                have c1 : (2 : Int) + 1 ≤ h 238 1 := c.1
                have c2 : 1 ≤ h 238 100 := c.2.1
                have c3 : h 238 67 ≤ 9998 := c.2.2.1
                have c4 : ((1 ≤ h 238 (43 + (h 238 86).toNat) ∧ h 238 102 < h 238 7) ∨ (h 238 (43 + (h 238 86).toNat) ≤ 0 ∧ h 238 86 - h 238 106 ≤ h 238 3)) := c.2.2.2
                rw [show 43 + (h 238 86).toNat = i14 by omega] at c4; omega
              exact I3 x1 3 h ⟨rfl, (show (-1 ≤ x1 ∧ x1 ≤ 3) ∧ (0 ≤ 3 ∧ 3 ≤ 4) by omega), (laX.no X3_0 (by omega) 2 (by omega) cn23)⟩ (show ((4 : Int) + 1 - 3).toNat < ((4 : Int) + 1 - x2).toNat by omega)
            ·
              refine wi_iconst (n := 1) (nx := 64) (r1 := 0) (r2 := 0) (r3 := 0) rfl ?_
              refine wi_goto (nx := 67) (r1 := 94) (r2 := 0) (r3 := 0) rfl ?_
              refine wi_zreturn (nx := 95) (r1 := 0) (r2 := 0) (r3 := 0) rfl rfl (by omega) ?_
              refine wk_i ?_
              refine wi_if (cd := .ne) (nx := 22) (r1 := 25) (r2 := 0) (r3 := 0) rfl (by omega) (fun (q20 : 1 ≠ 0) => ?_) (fun (q20 : ¬ (1 ≠ 0)) => by exfalso; omega)
              refine wi_aload_n (i := 0) (x := 236) (nx := 26) (r1 := 0) (r2 := 0) (r3 := 0) rfl rfl ?_
              refine wr_gr (k0 := 236) (x := 238) (nx := 29) (r1 := 11) (r2 := 13) (r3 := 0) rfl rfl (by decide) rfl ⟨rfl, rfl⟩ rfl ?_
              refine wi_bipush (n := 31) (nx := 31) (r1 := 0) (r2 := 0) (r3 := 0) rfl (by decide) ?_
              refine wi_aload_n (i := 0) (x := 236) (nx := 32) (r1 := 0) (r2 := 0) (r3 := 0) rfl rfl ?_
              refine wi_iload_n (i := 2) (e := 2) (nx := 33) (r1 := 0) (r2 := 0) (r3 := 0) rfl rfl ?_
              refine wi_iconst (n := 0) (nx := 34) (r1 := 0) (r2 := 0) (r3 := 0) rfl ?_
              refine wr_V (k0 := 236) (rest := [vi 31, .ref 238]) (as := [.ref 236, vi 2, vi 0]) (nx := 37) (r1 := 258) (r2 := 2) (r3 := 11) rfl rfl rfl (of_decide_eq_true rfl) rfl rfl (by decide) rfl rfl (of_decide_eq_true rfl) (of_decide_eq_true rfl) ?_
              refine wi_aload_n (i := 0) (x := 236) (nx := 1) (r1 := 0) (r2 := 0) (r3 := 0) rfl rfl ?_
              refine wr_gr (k0 := 236) (x := 238) (nx := 4) (r1 := 11) (r2 := 13) (r3 := 0) rfl rfl (by decide) rfl ⟨rfl, rfl⟩ rfl ?_
              refine wi_bipush (n := 74) (nx := 6) (r1 := 0) (r2 := 0) (r3 := 0) rfl (by decide) ?_
              refine wi_bipush (n := 6) (nx := 8) (r1 := 0) (r2 := 0) (r3 := 0) rfl (by decide) ?_
              refine wi_iload_n (i := 1) (e := 2) (nx := 9) (r1 := 0) (r2 := 0) (r3 := 0) rfl rfl ?_
              refine wr_mulL (12) (nx := 10) (r1 := 0) (r2 := 0) (r3 := 0) rfl (by decide) ?_
              refine wr_addL (86) (nx := 11) (r1 := 0) (r2 := 0) (r3 := 0) rfl (by decide) ?_
              refine wi_iload_n (i := 2) (e := 0) (nx := 12) (r1 := 0) (r2 := 0) (r3 := 0) rfl rfl ?_
              refine wr_addL (86) (nx := 13) (r1 := 0) (r2 := 0) (r3 := 0) rfl (by decide) ?_
              refine wr_ia (k0 := 238) (a := 86) (f := 86) (x := h 238 86) (nx := 14) (r1 := 0) (r2 := 0) (r3 := 0) rfl (by decide) rfl (by omega) (by omega) (by decide) rfl ?_
              refine wi_ireturn (nx := 15) (r1 := 0) (r2 := 0) (r3 := 0) rfl rfl ?_
              refine wk_i ?_
              refine wr_add (nx := 38) (r1 := 0) (r2 := 0) (r3 := 0) rfl (fun e21 (fe21 : e21 = 31 + (h 238 86)) => ?_)
              obtain ⟨i22, ei22⟩ : ∃ q : Nat, e21 = (q : Int) := ⟨(e21).toNat, by omega⟩
              have b23 := gi_b (lo := 0) (hi := 4) g 238 i22 (gi_rg 31 12 (fun _ => rfl) (by decide +kernel) (by omega))
              refine wr_ia (k0 := 238) (a := e21) (f := i22) (x := h 238 i22) (nx := 39) (r1 := 0) (r2 := 0) (r3 := 0) rfl (by decide) rfl (by omega) (by omega) (by decide) rfl ?_
              refine wi_aload_n (i := 0) (x := 236) (nx := 40) (r1 := 0) (r2 := 0) (r3 := 0) rfl rfl ?_
              refine wr_gr (k0 := 236) (x := 238) (nx := 43) (r1 := 11) (r2 := 13) (r3 := 0) rfl rfl (by decide) rfl ⟨rfl, rfl⟩ rfl ?_
              refine wi_bipush (n := 68) (nx := 45) (r1 := 0) (r2 := 0) (r3 := 0) rfl (by decide) ?_
              have b24 := gi_b (lo := -1) (hi := 4) g 238 68 rfl
              refine wr_ia (k0 := 238) (a := 68) (f := 68) (x := h 238 68) (nx := 46) (r1 := 0) (r2 := 0) (r3 := 0) rfl (by decide) rfl (by omega) (by omega) (by decide) rfl ?_
              refine wi_icmp (cd := .ne) (nx := 49) (r1 := 51) (r2 := 0) (r3 := 0) rfl (by omega) (by omega) (fun (q25 : (h 238 i22) ≠ (h 238 68)) => ?_) (fun (q25 : ¬ ((h 238 i22) ≠ (h 238 68))) => ?_)
              ·
                refine wi_iload_n (i := 1) (e := x1) (nx := 52) (r1 := 0) (r2 := 0) (r3 := 0) rfl rfl ?_
                refine wi_iconst (n := (-1)) (nx := 53) (r1 := 0) (r2 := 0) (r3 := 0) rfl ?_
                refine wi_icmp (cd := .eq) (nx := 56) (r1 := 71) (r2 := 0) (r3 := 0) rfl (by omega) (by omega) (fun (q26 : x1 = (-1)) => ?_) (fun (q26 : ¬ (x1 = (-1))) => ?_)
                ·
                  refine wi_iload_n (i := 2) (e := 2) (nx := 72) (r1 := 0) (r2 := 0) (r3 := 0) rfl rfl ?_
                  refine wi_istore_n (i := 1) (e := 2) (lo2 := [(1, vi 2), (0, .ref 236), (2, vi 2)]) (nx := 73) (r1 := 0) (r2 := 0) (r3 := 0) rfl rfl ?_
                  refine wr_iincL (i := 2) (n := 1) (v := 2) (3) ([(2, vi 3), (1, vi 2), (0, .ref 236)]) (nx := 76) (r1 := 0) (r2 := 0) (r3 := 0) rfl rfl (by decide) rfl ?_
                  refine wi_goto (nx := 79) (r1 := 4) (r2 := 0) (r3 := 0) rfl ?_
                  refine wp.lo (lo := [(0, .ref 236), (1, vi 2), (2, vi 3)]) ⟨rfl, rfl, rfl, trivial⟩ rfl ?_
                  have b27 := gi_b (lo := 0) (hi := 12) g 238 106 rfl
                  have b28 := gi_b (lo := 0) (hi := 999) g 238 3 rfl
                  have c30 : h 238 i14 = h 238 i14 := rfl
                  have cn29 : canL (h 238) 2 := ⟨(show (2 : Int) + 1 ≤ h 238 1 by omega), (show 1 ≤ h 238 100 by omega), (show h 238 67 ≤ 9998 by omega), (show ((1 ≤ h 238 (43 + (h 238 86).toNat) ∧ h 238 102 < h 238 7) ∨ (h 238 (43 + (h 238 86).toNat) ≤ 0 ∧ h 238 86 - h 238 106 ≤ h 238 3)) by rw [show 43 + (h 238 86).toNat = i14 by omega]; omega)⟩
                  exact I3 2 3 h ⟨rfl, (show (-1 ≤ 2 ∧ 2 ≤ 3) ∧ (0 ≤ 3 ∧ 3 ≤ 4) by omega), (laX.yes 2 (by decide) (by omega) cn29)⟩ (show ((4 : Int) + 1 - 3).toNat < ((4 : Int) + 1 - x2).toNat by omega)
                ·
                  refine wi_aload_n (i := 0) (x := 236) (nx := 57) (r1 := 0) (r2 := 0) (r3 := 0) rfl rfl ?_
                  refine wi_iload_n (i := 2) (e := 2) (nx := 58) (r1 := 0) (r2 := 0) (r3 := 0) rfl rfl ?_
                  refine wi_iconst (n := 0) (nx := 59) (r1 := 0) (r2 := 0) (r3 := 0) rfl ?_
                  refine wr_V (k0 := 236) (rest := []) (as := [.ref 236, vi 2, vi 0]) (nx := 62) (r1 := 258) (r2 := 2) (r3 := 11) rfl rfl rfl (of_decide_eq_true rfl) rfl rfl (by decide) rfl rfl (of_decide_eq_true rfl) (of_decide_eq_true rfl) ?_
                  refine wi_aload_n (i := 0) (x := 236) (nx := 1) (r1 := 0) (r2 := 0) (r3 := 0) rfl rfl ?_
                  refine wr_gr (k0 := 236) (x := 238) (nx := 4) (r1 := 11) (r2 := 13) (r3 := 0) rfl rfl (by decide) rfl ⟨rfl, rfl⟩ rfl ?_
                  refine wi_bipush (n := 74) (nx := 6) (r1 := 0) (r2 := 0) (r3 := 0) rfl (by decide) ?_
                  refine wi_bipush (n := 6) (nx := 8) (r1 := 0) (r2 := 0) (r3 := 0) rfl (by decide) ?_
                  refine wi_iload_n (i := 1) (e := 2) (nx := 9) (r1 := 0) (r2 := 0) (r3 := 0) rfl rfl ?_
                  refine wr_mulL (12) (nx := 10) (r1 := 0) (r2 := 0) (r3 := 0) rfl (by decide) ?_
                  refine wr_addL (86) (nx := 11) (r1 := 0) (r2 := 0) (r3 := 0) rfl (by decide) ?_
                  refine wi_iload_n (i := 2) (e := 0) (nx := 12) (r1 := 0) (r2 := 0) (r3 := 0) rfl rfl ?_
                  refine wr_addL (86) (nx := 13) (r1 := 0) (r2 := 0) (r3 := 0) rfl (by decide) ?_
                  refine wr_ia (k0 := 238) (a := 86) (f := 86) (x := h 238 86) (nx := 14) (r1 := 0) (r2 := 0) (r3 := 0) rfl (by decide) rfl (by omega) (by omega) (by decide) rfl ?_
                  refine wi_ireturn (nx := 15) (r1 := 0) (r2 := 0) (r3 := 0) rfl rfl ?_
                  refine wk_i ?_
                  refine wi_aload_n (i := 0) (x := 236) (nx := 63) (r1 := 0) (r2 := 0) (r3 := 0) rfl rfl ?_
                  refine wi_iload_n (i := 1) (e := x1) (nx := 64) (r1 := 0) (r2 := 0) (r3 := 0) rfl rfl ?_
                  refine wi_iconst (n := 0) (nx := 65) (r1 := 0) (r2 := 0) (r3 := 0) rfl ?_
                  rcases (show x1 = 0 ∨ x1 = 1 ∨ x1 = 2 ∨ x1 = 3 by omega) with q27 | q27 | q27 | q27
                  ·
                    rw [q27]
                    refine wr_V (k0 := 236) (rest := [vi (h 238 86)]) (as := [.ref 236, vi 0, vi 0]) (nx := 68) (r1 := 258) (r2 := 2) (r3 := 11) rfl rfl rfl (of_decide_eq_true rfl) rfl rfl (by decide) rfl rfl (of_decide_eq_true rfl) (of_decide_eq_true rfl) ?_
                    refine wi_aload_n (i := 0) (x := 236) (nx := 1) (r1 := 0) (r2 := 0) (r3 := 0) rfl rfl ?_
                    refine wr_gr (k0 := 236) (x := 238) (nx := 4) (r1 := 11) (r2 := 13) (r3 := 0) rfl rfl (by decide) rfl ⟨rfl, rfl⟩ rfl ?_
                    refine wi_bipush (n := 74) (nx := 6) (r1 := 0) (r2 := 0) (r3 := 0) rfl (by decide) ?_
                    refine wi_bipush (n := 6) (nx := 8) (r1 := 0) (r2 := 0) (r3 := 0) rfl (by decide) ?_
                    refine wi_iload_n (i := 1) (e := 0) (nx := 9) (r1 := 0) (r2 := 0) (r3 := 0) rfl rfl ?_
                    refine wr_mulL (0) (nx := 10) (r1 := 0) (r2 := 0) (r3 := 0) rfl (by decide) ?_
                    refine wr_addL (74) (nx := 11) (r1 := 0) (r2 := 0) (r3 := 0) rfl (by decide) ?_
                    refine wi_iload_n (i := 2) (e := 0) (nx := 12) (r1 := 0) (r2 := 0) (r3 := 0) rfl rfl ?_
                    refine wr_addL (74) (nx := 13) (r1 := 0) (r2 := 0) (r3 := 0) rfl (by decide) ?_
                    have b28 := gi_b (lo := 0) (hi := 11) g 238 74 rfl
                    refine wr_ia (k0 := 238) (a := 74) (f := 74) (x := h 238 74) (nx := 14) (r1 := 0) (r2 := 0) (r3 := 0) rfl (by decide) rfl (by omega) (by omega) (by decide) rfl ?_
                    refine wi_ireturn (nx := 15) (r1 := 0) (r2 := 0) (r3 := 0) rfl rfl ?_
                    refine wk_i ?_
                    refine wi_icmp (cd := .ge) (nx := 71) (r1 := 73) (r2 := 0) (r3 := 0) rfl (by omega) (by omega) (fun (q29 : (h 238 74) ≤ (h 238 86)) => ?_) (fun (q29 : ¬ ((h 238 74) ≤ (h 238 86))) => ?_)
                    ·
                      refine wr_iincL (i := 2) (n := 1) (v := 2) (3) ([(2, vi 3), (0, .ref 236), (1, vi 0)]) (nx := 76) (r1 := 0) (r2 := 0) (r3 := 0) rfl rfl (by decide) rfl ?_
                      refine wi_goto (nx := 79) (r1 := 4) (r2 := 0) (r3 := 0) rfl ?_
                      refine wp.lo (lo := [(0, .ref 236), (1, vi 0), (2, vi 3)]) ⟨rfl, rfl, rfl, trivial⟩ rfl ?_
                      have b30 := gi_b (lo := 0) (hi := 12) g 238 106 rfl
                      have b31 := gi_b (lo := 0) (hi := 999) g 238 3 rfl
                      have c33 : h 238 i14 = h 238 i14 := rfl
                      have cn32 : canL (h 238) 2 := ⟨(show (2 : Int) + 1 ≤ h 238 1 by omega), (show 1 ≤ h 238 100 by omega), (show h 238 67 ≤ 9998 by omega), (show ((1 ≤ h 238 (43 + (h 238 86).toNat) ∧ h 238 102 < h 238 7) ∨ (h 238 (43 + (h 238 86).toNat) ≤ 0 ∧ h 238 86 - h 238 106 ≤ h 238 3)) by rw [show 43 + (h 238 86).toNat = i14 by omega]; omega)⟩
                      exact I3 0 3 h ⟨rfl, (show (-1 ≤ 0 ∧ 0 ≤ 3) ∧ (0 ≤ 3 ∧ 3 ≤ 4) by omega), (laX.yes 2 (by decide) (by omega) cn32)⟩ (show ((4 : Int) + 1 - 3).toNat < ((4 : Int) + 1 - x2).toNat by omega)
                    ·
                      refine wi_iload_n (i := 2) (e := 2) (nx := 72) (r1 := 0) (r2 := 0) (r3 := 0) rfl rfl ?_
                      refine wi_istore_n (i := 1) (e := 2) (lo2 := [(1, vi 2), (0, .ref 236), (2, vi 2)]) (nx := 73) (r1 := 0) (r2 := 0) (r3 := 0) rfl rfl ?_
                      refine wr_iincL (i := 2) (n := 1) (v := 2) (3) ([(2, vi 3), (1, vi 2), (0, .ref 236)]) (nx := 76) (r1 := 0) (r2 := 0) (r3 := 0) rfl rfl (by decide) rfl ?_
                      refine wi_goto (nx := 79) (r1 := 4) (r2 := 0) (r3 := 0) rfl ?_
                      refine wp.lo (lo := [(0, .ref 236), (1, vi 2), (2, vi 3)]) ⟨rfl, rfl, rfl, trivial⟩ rfl ?_
                      have b30 := gi_b (lo := 0) (hi := 12) g 238 106 rfl
                      have b31 := gi_b (lo := 0) (hi := 999) g 238 3 rfl
                      have c33 : h 238 i14 = h 238 i14 := rfl
                      have cn32 : canL (h 238) 2 := ⟨(show (2 : Int) + 1 ≤ h 238 1 by omega), (show 1 ≤ h 238 100 by omega), (show h 238 67 ≤ 9998 by omega), (show ((1 ≤ h 238 (43 + (h 238 86).toNat) ∧ h 238 102 < h 238 7) ∨ (h 238 (43 + (h 238 86).toNat) ≤ 0 ∧ h 238 86 - h 238 106 ≤ h 238 3)) by rw [show 43 + (h 238 86).toNat = i14 by omega]; omega)⟩
                      exact I3 2 3 h ⟨rfl, (show (-1 ≤ 2 ∧ 2 ≤ 3) ∧ (0 ≤ 3 ∧ 3 ≤ 4) by omega), (laX.yes 2 (by decide) (by omega) cn32)⟩ (show ((4 : Int) + 1 - 3).toNat < ((4 : Int) + 1 - x2).toNat by omega)
                  ·
                    rw [q27]
                    refine wr_V (k0 := 236) (rest := [vi (h 238 86)]) (as := [.ref 236, vi 1, vi 0]) (nx := 68) (r1 := 258) (r2 := 2) (r3 := 11) rfl rfl rfl (of_decide_eq_true rfl) rfl rfl (by decide) rfl rfl (of_decide_eq_true rfl) (of_decide_eq_true rfl) ?_
                    refine wi_aload_n (i := 0) (x := 236) (nx := 1) (r1 := 0) (r2 := 0) (r3 := 0) rfl rfl ?_
                    refine wr_gr (k0 := 236) (x := 238) (nx := 4) (r1 := 11) (r2 := 13) (r3 := 0) rfl rfl (by decide) rfl ⟨rfl, rfl⟩ rfl ?_
                    refine wi_bipush (n := 74) (nx := 6) (r1 := 0) (r2 := 0) (r3 := 0) rfl (by decide) ?_
                    refine wi_bipush (n := 6) (nx := 8) (r1 := 0) (r2 := 0) (r3 := 0) rfl (by decide) ?_
                    refine wi_iload_n (i := 1) (e := 1) (nx := 9) (r1 := 0) (r2 := 0) (r3 := 0) rfl rfl ?_
                    refine wr_mulL (6) (nx := 10) (r1 := 0) (r2 := 0) (r3 := 0) rfl (by decide) ?_
                    refine wr_addL (80) (nx := 11) (r1 := 0) (r2 := 0) (r3 := 0) rfl (by decide) ?_
                    refine wi_iload_n (i := 2) (e := 0) (nx := 12) (r1 := 0) (r2 := 0) (r3 := 0) rfl rfl ?_
                    refine wr_addL (80) (nx := 13) (r1 := 0) (r2 := 0) (r3 := 0) rfl (by decide) ?_
                    have b28 := gi_b (lo := 0) (hi := 11) g 238 80 rfl
                    refine wr_ia (k0 := 238) (a := 80) (f := 80) (x := h 238 80) (nx := 14) (r1 := 0) (r2 := 0) (r3 := 0) rfl (by decide) rfl (by omega) (by omega) (by decide) rfl ?_
                    refine wi_ireturn (nx := 15) (r1 := 0) (r2 := 0) (r3 := 0) rfl rfl ?_
                    refine wk_i ?_
                    refine wi_icmp (cd := .ge) (nx := 71) (r1 := 73) (r2 := 0) (r3 := 0) rfl (by omega) (by omega) (fun (q29 : (h 238 80) ≤ (h 238 86)) => ?_) (fun (q29 : ¬ ((h 238 80) ≤ (h 238 86))) => ?_)
                    ·
                      refine wr_iincL (i := 2) (n := 1) (v := 2) (3) ([(2, vi 3), (0, .ref 236), (1, vi 1)]) (nx := 76) (r1 := 0) (r2 := 0) (r3 := 0) rfl rfl (by decide) rfl ?_
                      refine wi_goto (nx := 79) (r1 := 4) (r2 := 0) (r3 := 0) rfl ?_
                      refine wp.lo (lo := [(0, .ref 236), (1, vi 1), (2, vi 3)]) ⟨rfl, rfl, rfl, trivial⟩ rfl ?_
                      have b30 := gi_b (lo := 0) (hi := 12) g 238 106 rfl
                      have b31 := gi_b (lo := 0) (hi := 999) g 238 3 rfl
                      have c33 : h 238 i14 = h 238 i14 := rfl
                      have cn32 : canL (h 238) 2 := ⟨(show (2 : Int) + 1 ≤ h 238 1 by omega), (show 1 ≤ h 238 100 by omega), (show h 238 67 ≤ 9998 by omega), (show ((1 ≤ h 238 (43 + (h 238 86).toNat) ∧ h 238 102 < h 238 7) ∨ (h 238 (43 + (h 238 86).toNat) ≤ 0 ∧ h 238 86 - h 238 106 ≤ h 238 3)) by rw [show 43 + (h 238 86).toNat = i14 by omega]; omega)⟩
                      exact I3 1 3 h ⟨rfl, (show (-1 ≤ 1 ∧ 1 ≤ 3) ∧ (0 ≤ 3 ∧ 3 ≤ 4) by omega), (laX.yes 2 (by decide) (by omega) cn32)⟩ (show ((4 : Int) + 1 - 3).toNat < ((4 : Int) + 1 - x2).toNat by omega)
                    ·
                      refine wi_iload_n (i := 2) (e := 2) (nx := 72) (r1 := 0) (r2 := 0) (r3 := 0) rfl rfl ?_
                      refine wi_istore_n (i := 1) (e := 2) (lo2 := [(1, vi 2), (0, .ref 236), (2, vi 2)]) (nx := 73) (r1 := 0) (r2 := 0) (r3 := 0) rfl rfl ?_
                      refine wr_iincL (i := 2) (n := 1) (v := 2) (3) ([(2, vi 3), (1, vi 2), (0, .ref 236)]) (nx := 76) (r1 := 0) (r2 := 0) (r3 := 0) rfl rfl (by decide) rfl ?_
                      refine wi_goto (nx := 79) (r1 := 4) (r2 := 0) (r3 := 0) rfl ?_
                      refine wp.lo (lo := [(0, .ref 236), (1, vi 2), (2, vi 3)]) ⟨rfl, rfl, rfl, trivial⟩ rfl ?_
                      have b30 := gi_b (lo := 0) (hi := 12) g 238 106 rfl
                      have b31 := gi_b (lo := 0) (hi := 999) g 238 3 rfl
                      have c33 : h 238 i14 = h 238 i14 := rfl
                      have cn32 : canL (h 238) 2 := ⟨(show (2 : Int) + 1 ≤ h 238 1 by omega), (show 1 ≤ h 238 100 by omega), (show h 238 67 ≤ 9998 by omega), (show ((1 ≤ h 238 (43 + (h 238 86).toNat) ∧ h 238 102 < h 238 7) ∨ (h 238 (43 + (h 238 86).toNat) ≤ 0 ∧ h 238 86 - h 238 106 ≤ h 238 3)) by rw [show 43 + (h 238 86).toNat = i14 by omega]; omega)⟩
                      exact I3 2 3 h ⟨rfl, (show (-1 ≤ 2 ∧ 2 ≤ 3) ∧ (0 ≤ 3 ∧ 3 ≤ 4) by omega), (laX.yes 2 (by decide) (by omega) cn32)⟩ (show ((4 : Int) + 1 - 3).toNat < ((4 : Int) + 1 - x2).toNat by omega)
                  ·
                    rw [q27]
                    refine wr_V (k0 := 236) (rest := [vi (h 238 86)]) (as := [.ref 236, vi 2, vi 0]) (nx := 68) (r1 := 258) (r2 := 2) (r3 := 11) rfl rfl rfl (of_decide_eq_true rfl) rfl rfl (by decide) rfl rfl (of_decide_eq_true rfl) (of_decide_eq_true rfl) ?_
                    refine wi_aload_n (i := 0) (x := 236) (nx := 1) (r1 := 0) (r2 := 0) (r3 := 0) rfl rfl ?_
                    refine wr_gr (k0 := 236) (x := 238) (nx := 4) (r1 := 11) (r2 := 13) (r3 := 0) rfl rfl (by decide) rfl ⟨rfl, rfl⟩ rfl ?_
                    refine wi_bipush (n := 74) (nx := 6) (r1 := 0) (r2 := 0) (r3 := 0) rfl (by decide) ?_
                    refine wi_bipush (n := 6) (nx := 8) (r1 := 0) (r2 := 0) (r3 := 0) rfl (by decide) ?_
                    refine wi_iload_n (i := 1) (e := 2) (nx := 9) (r1 := 0) (r2 := 0) (r3 := 0) rfl rfl ?_
                    refine wr_mulL (12) (nx := 10) (r1 := 0) (r2 := 0) (r3 := 0) rfl (by decide) ?_
                    refine wr_addL (86) (nx := 11) (r1 := 0) (r2 := 0) (r3 := 0) rfl (by decide) ?_
                    refine wi_iload_n (i := 2) (e := 0) (nx := 12) (r1 := 0) (r2 := 0) (r3 := 0) rfl rfl ?_
                    refine wr_addL (86) (nx := 13) (r1 := 0) (r2 := 0) (r3 := 0) rfl (by decide) ?_
                    refine wr_ia (k0 := 238) (a := 86) (f := 86) (x := h 238 86) (nx := 14) (r1 := 0) (r2 := 0) (r3 := 0) rfl (by decide) rfl (by omega) (by omega) (by decide) rfl ?_
                    refine wi_ireturn (nx := 15) (r1 := 0) (r2 := 0) (r3 := 0) rfl rfl ?_
                    refine wk_i ?_
                    refine wi_icmp (cd := .ge) (nx := 71) (r1 := 73) (r2 := 0) (r3 := 0) rfl (by omega) (by omega) (fun (q28 : (h 238 86) ≤ (h 238 86)) => ?_) (fun (q28 : ¬ ((h 238 86) ≤ (h 238 86))) => by exfalso; omega)
                    refine wr_iincL (i := 2) (n := 1) (v := 2) (3) ([(2, vi 3), (0, .ref 236), (1, vi 2)]) (nx := 76) (r1 := 0) (r2 := 0) (r3 := 0) rfl rfl (by decide) rfl ?_
                    refine wi_goto (nx := 79) (r1 := 4) (r2 := 0) (r3 := 0) rfl ?_
                    refine wp.lo (lo := [(0, .ref 236), (1, vi 2), (2, vi 3)]) ⟨rfl, rfl, rfl, trivial⟩ rfl ?_
                    have b29 := gi_b (lo := 0) (hi := 12) g 238 106 rfl
                    have b30 := gi_b (lo := 0) (hi := 999) g 238 3 rfl
                    have c32 : h 238 i14 = h 238 i14 := rfl
                    have cn31 : canL (h 238) 2 := ⟨(show (2 : Int) + 1 ≤ h 238 1 by omega), (show 1 ≤ h 238 100 by omega), (show h 238 67 ≤ 9998 by omega), (show ((1 ≤ h 238 (43 + (h 238 86).toNat) ∧ h 238 102 < h 238 7) ∨ (h 238 (43 + (h 238 86).toNat) ≤ 0 ∧ h 238 86 - h 238 106 ≤ h 238 3)) by rw [show 43 + (h 238 86).toNat = i14 by omega]; omega)⟩
                    exact I3 2 3 h ⟨rfl, (show (-1 ≤ 2 ∧ 2 ≤ 3) ∧ (0 ≤ 3 ∧ 3 ≤ 4) by omega), (laX.yes 2 (by decide) (by omega) cn31)⟩ (show ((4 : Int) + 1 - 3).toNat < ((4 : Int) + 1 - x2).toNat by omega)
                  ·
                    rw [q27]
                    refine wr_V (k0 := 236) (rest := [vi (h 238 86)]) (as := [.ref 236, vi 3, vi 0]) (nx := 68) (r1 := 258) (r2 := 2) (r3 := 11) rfl rfl rfl (of_decide_eq_true rfl) rfl rfl (by decide) rfl rfl (of_decide_eq_true rfl) (of_decide_eq_true rfl) ?_
                    refine wi_aload_n (i := 0) (x := 236) (nx := 1) (r1 := 0) (r2 := 0) (r3 := 0) rfl rfl ?_
                    refine wr_gr (k0 := 236) (x := 238) (nx := 4) (r1 := 11) (r2 := 13) (r3 := 0) rfl rfl (by decide) rfl ⟨rfl, rfl⟩ rfl ?_
                    refine wi_bipush (n := 74) (nx := 6) (r1 := 0) (r2 := 0) (r3 := 0) rfl (by decide) ?_
                    refine wi_bipush (n := 6) (nx := 8) (r1 := 0) (r2 := 0) (r3 := 0) rfl (by decide) ?_
                    refine wi_iload_n (i := 1) (e := 3) (nx := 9) (r1 := 0) (r2 := 0) (r3 := 0) rfl rfl ?_
                    refine wr_mulL (18) (nx := 10) (r1 := 0) (r2 := 0) (r3 := 0) rfl (by decide) ?_
                    refine wr_addL (92) (nx := 11) (r1 := 0) (r2 := 0) (r3 := 0) rfl (by decide) ?_
                    refine wi_iload_n (i := 2) (e := 0) (nx := 12) (r1 := 0) (r2 := 0) (r3 := 0) rfl rfl ?_
                    refine wr_addL (92) (nx := 13) (r1 := 0) (r2 := 0) (r3 := 0) rfl (by decide) ?_
                    have b28 := gi_b (lo := 0) (hi := 11) g 238 92 rfl
                    refine wr_ia (k0 := 238) (a := 92) (f := 92) (x := h 238 92) (nx := 14) (r1 := 0) (r2 := 0) (r3 := 0) rfl (by decide) rfl (by omega) (by omega) (by decide) rfl ?_
                    refine wi_ireturn (nx := 15) (r1 := 0) (r2 := 0) (r3 := 0) rfl rfl ?_
                    refine wk_i ?_
                    refine wi_icmp (cd := .ge) (nx := 71) (r1 := 73) (r2 := 0) (r3 := 0) rfl (by omega) (by omega) (fun (q29 : (h 238 92) ≤ (h 238 86)) => ?_) (fun (q29 : ¬ ((h 238 92) ≤ (h 238 86))) => ?_)
                    ·
                      refine wr_iincL (i := 2) (n := 1) (v := 2) (3) ([(2, vi 3), (0, .ref 236), (1, vi 3)]) (nx := 76) (r1 := 0) (r2 := 0) (r3 := 0) rfl rfl (by decide) rfl ?_
                      refine wi_goto (nx := 79) (r1 := 4) (r2 := 0) (r3 := 0) rfl ?_
                      refine wp.lo (lo := [(0, .ref 236), (1, vi 3), (2, vi 3)]) ⟨rfl, rfl, rfl, trivial⟩ rfl ?_
                      have b30 := gi_b (lo := 0) (hi := 12) g 238 106 rfl
                      have b31 := gi_b (lo := 0) (hi := 999) g 238 3 rfl
                      have c33 : h 238 i14 = h 238 i14 := rfl
                      have cn32 : canL (h 238) 2 := ⟨(show (2 : Int) + 1 ≤ h 238 1 by omega), (show 1 ≤ h 238 100 by omega), (show h 238 67 ≤ 9998 by omega), (show ((1 ≤ h 238 (43 + (h 238 86).toNat) ∧ h 238 102 < h 238 7) ∨ (h 238 (43 + (h 238 86).toNat) ≤ 0 ∧ h 238 86 - h 238 106 ≤ h 238 3)) by rw [show 43 + (h 238 86).toNat = i14 by omega]; omega)⟩
                      exact I3 3 3 h ⟨rfl, (show (-1 ≤ 3 ∧ 3 ≤ 3) ∧ (0 ≤ 3 ∧ 3 ≤ 4) by omega), (laX.yes 2 (by decide) (by omega) cn32)⟩ (show ((4 : Int) + 1 - 3).toNat < ((4 : Int) + 1 - x2).toNat by omega)
                    ·
                      refine wi_iload_n (i := 2) (e := 2) (nx := 72) (r1 := 0) (r2 := 0) (r3 := 0) rfl rfl ?_
                      refine wi_istore_n (i := 1) (e := 2) (lo2 := [(1, vi 2), (0, .ref 236), (2, vi 2)]) (nx := 73) (r1 := 0) (r2 := 0) (r3 := 0) rfl rfl ?_
                      refine wr_iincL (i := 2) (n := 1) (v := 2) (3) ([(2, vi 3), (1, vi 2), (0, .ref 236)]) (nx := 76) (r1 := 0) (r2 := 0) (r3 := 0) rfl rfl (by decide) rfl ?_
                      refine wi_goto (nx := 79) (r1 := 4) (r2 := 0) (r3 := 0) rfl ?_
                      refine wp.lo (lo := [(0, .ref 236), (1, vi 2), (2, vi 3)]) ⟨rfl, rfl, rfl, trivial⟩ rfl ?_
                      have b30 := gi_b (lo := 0) (hi := 12) g 238 106 rfl
                      have b31 := gi_b (lo := 0) (hi := 999) g 238 3 rfl
                      have c33 : h 238 i14 = h 238 i14 := rfl
                      have cn32 : canL (h 238) 2 := ⟨(show (2 : Int) + 1 ≤ h 238 1 by omega), (show 1 ≤ h 238 100 by omega), (show h 238 67 ≤ 9998 by omega), (show ((1 ≤ h 238 (43 + (h 238 86).toNat) ∧ h 238 102 < h 238 7) ∨ (h 238 (43 + (h 238 86).toNat) ≤ 0 ∧ h 238 86 - h 238 106 ≤ h 238 3)) by rw [show 43 + (h 238 86).toNat = i14 by omega]; omega)⟩
                      exact I3 2 3 h ⟨rfl, (show (-1 ≤ 2 ∧ 2 ≤ 3) ∧ (0 ≤ 3 ∧ 3 ≤ 4) by omega), (laX.yes 2 (by decide) (by omega) cn32)⟩ (show ((4 : Int) + 1 - 3).toNat < ((4 : Int) + 1 - x2).toNat by omega)
              ·
                refine wi_iload_n (i := 2) (e := 2) (nx := 50) (r1 := 0) (r2 := 0) (r3 := 0) rfl rfl ?_
                refine wi_ireturn (nx := 51) (r1 := 0) (r2 := 0) (r3 := 0) rfl rfl ?_
                have b26 := gi_b (lo := 0) (hi := 12) g 238 106 rfl
                have b27 := gi_b (lo := 0) (hi := 999) g 238 3 rfl
                have c29 : h 238 i14 = h 238 i14 := rfl
                have cn28 : canL (h 238) 2 := ⟨(show (2 : Int) + 1 ≤ h 238 1 by omega), (show 1 ≤ h 238 100 by omega), (show h 238 67 ≤ 9998 by omega), (show ((1 ≤ h 238 (43 + (h 238 86).toNat) ∧ h 238 102 < h 238 7) ∨ (h 238 (43 + (h 238 86).toNat) ≤ 0 ∧ h 238 86 - h 238 106 ≤ h 238 3)) by rw [show 43 + (h 238 86).toNat = i14 by omega]; omega)⟩
                exact k 2 (by omega) (laX.yes 2 (by decide) (by omega) cn28)
        ·
          refine wi_iconst (n := 0) (nx := 26) (r1 := 0) (r2 := 0) (r3 := 0) rfl ?_
          refine wi_zreturn (nx := 27) (r1 := 0) (r2 := 0) (r3 := 0) rfl rfl (by omega) ?_
          refine wk_i ?_
          refine wi_if (cd := .ne) (nx := 22) (r1 := 25) (r2 := 0) (r3 := 0) rfl (by omega) (fun (q12 : 0 ≠ 0) => by exfalso; omega) (fun (q12 : ¬ (0 ≠ 0)) => ?_)
          refine wi_goto (nx := 25) (r1 := 73) (r2 := 0) (r3 := 0) rfl ?_
          refine wr_iincL (i := 2) (n := 1) (v := 2) (3) ([(2, vi 3), (0, .ref 236), (1, vi x1)]) (nx := 76) (r1 := 0) (r2 := 0) (r3 := 0) rfl rfl (by decide) rfl ?_
          refine wi_goto (nx := 79) (r1 := 4) (r2 := 0) (r3 := 0) rfl ?_
          refine wp.lo (lo := [(0, .ref 236), (1, vi x1), (2, vi 3)]) ⟨rfl, rfl, rfl, trivial⟩ rfl ?_
          have b13 := gi_b (lo := 0) (hi := 3) g 238 102 rfl
          have b14 := gi_b (lo := 0) (hi := 3) g 238 7 rfl
          have b15 := gi_b (lo := 0) (hi := 11) g 238 86 rfl
          have b16 := gi_b (lo := 0) (hi := 12) g 238 106 rfl
          have b17 := gi_b (lo := 0) (hi := 999) g 238 3 rfl
          have cn18 : ¬ canL (h 238) 2 := fun c => by
            have c1 : (2 : Int) + 1 ≤ h 238 1 := c.1
            have c2 : 1 ≤ h 238 100 := c.2.1
            have c3 : h 238 67 ≤ 9998 := c.2.2.1
            have c4 : ((1 ≤ h 238 (43 + (h 238 86).toNat) ∧ h 238 102 < h 238 7) ∨ (h 238 (43 + (h 238 86).toNat) ≤ 0 ∧ h 238 86 - h 238 106 ≤ h 238 3)) := c.2.2.2
            clear c4; omega
          exact I3 x1 3 h ⟨rfl, (show (-1 ≤ x1 ∧ x1 ≤ 3) ∧ (0 ≤ 3 ∧ 3 ≤ 4) by omega), (laX.no X3_0 (by omega) 2 (by omega) cn18)⟩ (show ((4 : Int) + 1 - 3).toNat < ((4 : Int) + 1 - x2).toNat by omega)
    ·
      rw [q7]
      refine wr_V (k0 := 236) (rest := []) (as := [.ref 236, vi 3]) (nx := 19) (r1 := 267) (r2 := 1) (r3 := 11) rfl rfl rfl (of_decide_eq_true rfl) rfl rfl (by decide) rfl rfl (of_decide_eq_true rfl) (of_decide_eq_true rfl) ?_
      refine wi_aload_n (i := 0) (x := 236) (nx := 1) (r1 := 0) (r2 := 0) (r3 := 0) rfl rfl ?_
      refine wr_gr (k0 := 236) (x := 238) (nx := 4) (r1 := 11) (r2 := 13) (r3 := 0) rfl rfl (by decide) rfl ⟨rfl, rfl⟩ rfl ?_
      refine wi_bipush (n := 98) (nx := 6) (r1 := 0) (r2 := 0) (r3 := 0) rfl (by decide) ?_
      refine wi_iload_n (i := 1) (e := 3) (nx := 7) (r1 := 0) (r2 := 0) (r3 := 0) rfl rfl ?_
      refine wr_addL (101) (nx := 8) (r1 := 0) (r2 := 0) (r3 := 0) rfl (by decide) ?_
      have b8 := gi_b (lo := 0) (hi := 6) g 238 101 rfl
      refine wr_ia (k0 := 238) (a := 101) (f := 101) (x := h 238 101) (nx := 9) (r1 := 0) (r2 := 0) (r3 := 0) rfl (by decide) rfl (by omega) (by omega) (by decide) rfl ?_
      refine wi_if (cd := .eq) (nx := 12) (r1 := 25) (r2 := 0) (r3 := 0) rfl (by omega) (fun (q9 : (h 238 101) = 0) => ?_) (fun (q9 : ¬ ((h 238 101) = 0)) => ?_)
      ·
        refine wi_iconst (n := 0) (nx := 26) (r1 := 0) (r2 := 0) (r3 := 0) rfl ?_
        refine wi_zreturn (nx := 27) (r1 := 0) (r2 := 0) (r3 := 0) rfl rfl (by omega) ?_
        refine wk_i ?_
        refine wi_if (cd := .ne) (nx := 22) (r1 := 25) (r2 := 0) (r3 := 0) rfl (by omega) (fun (q10 : 0 ≠ 0) => by exfalso; omega) (fun (q10 : ¬ (0 ≠ 0)) => ?_)
        refine wi_goto (nx := 25) (r1 := 73) (r2 := 0) (r3 := 0) rfl ?_
        refine wr_iincL (i := 2) (n := 1) (v := 3) (4) ([(2, vi 4), (0, .ref 236), (1, vi x1)]) (nx := 76) (r1 := 0) (r2 := 0) (r3 := 0) rfl rfl (by decide) rfl ?_
        refine wi_goto (nx := 79) (r1 := 4) (r2 := 0) (r3 := 0) rfl ?_
        refine wp.lo (lo := [(0, .ref 236), (1, vi x1), (2, vi 4)]) ⟨rfl, rfl, rfl, trivial⟩ rfl ?_
        have b11 := gi_b (lo := 0) (hi := 9999) g 238 67 rfl
        have b12 := gi_b (lo := 0) (hi := 3) g 238 102 rfl
        have b13 := gi_b (lo := 0) (hi := 3) g 238 7 rfl
        have b14 := gi_b (lo := 0) (hi := 11) g 238 92 rfl
        have b15 := gi_b (lo := 0) (hi := 12) g 238 106 rfl
        have b16 := gi_b (lo := 0) (hi := 999) g 238 3 rfl
        have cn17 : ¬ canL (h 238) 3 := fun c => by
          have c1 : (3 : Int) + 1 ≤ h 238 1 := c.1
          have c2 : 1 ≤ h 238 101 := c.2.1
          have c3 : h 238 67 ≤ 9998 := c.2.2.1
          have c4 : ((1 ≤ h 238 (43 + (h 238 92).toNat) ∧ h 238 102 < h 238 7) ∨ (h 238 (43 + (h 238 92).toNat) ≤ 0 ∧ h 238 92 - h 238 106 ≤ h 238 3)) := c.2.2.2
          clear c4; omega
        exact I3 x1 4 h ⟨rfl, (show (-1 ≤ x1 ∧ x1 ≤ 3) ∧ (0 ≤ 4 ∧ 4 ≤ 4) by omega), (laX.no X3_0 (by omega) 3 (by omega) cn17)⟩ (show ((4 : Int) + 1 - 4).toNat < ((4 : Int) + 1 - x2).toNat by omega)
      ·
        refine wi_aload_n (i := 0) (x := 236) (nx := 13) (r1 := 0) (r2 := 0) (r3 := 0) rfl rfl ?_
        refine wr_gr (k0 := 236) (x := 238) (nx := 16) (r1 := 11) (r2 := 13) (r3 := 0) rfl rfl (by decide) rfl ⟨rfl, rfl⟩ rfl ?_
        refine wi_bipush (n := 67) (nx := 18) (r1 := 0) (r2 := 0) (r3 := 0) rfl (by decide) ?_
        have b10 := gi_b (lo := 0) (hi := 9999) g 238 67 rfl
        refine wr_ia (k0 := 238) (a := 67) (f := 67) (x := h 238 67) (nx := 19) (r1 := 0) (r2 := 0) (r3 := 0) rfl (by decide) rfl (by omega) (by omega) (by decide) rfl ?_
        refine wi_sipush (n := 9999) (nx := 22) (r1 := 0) (r2 := 0) (r3 := 0) rfl (by decide) ?_
        refine wi_icmp (cd := .ne) (nx := 25) (r1 := 27) (r2 := 0) (r3 := 0) rfl (by omega) (by omega) (fun (q11 : (h 238 67) ≠ 9999) => ?_) (fun (q11 : ¬ ((h 238 67) ≠ 9999)) => ?_)
        ·
          refine wi_aload_n (i := 0) (x := 236) (nx := 28) (r1 := 0) (r2 := 0) (r3 := 0) rfl rfl ?_
          refine wi_iload_n (i := 1) (e := 3) (nx := 29) (r1 := 0) (r2 := 0) (r3 := 0) rfl rfl ?_
          refine wi_iconst (n := 0) (nx := 30) (r1 := 0) (r2 := 0) (r3 := 0) rfl ?_
          refine wr_V (k0 := 236) (rest := []) (as := [.ref 236, vi 3, vi 0]) (nx := 33) (r1 := 258) (r2 := 2) (r3 := 11) rfl rfl rfl (of_decide_eq_true rfl) rfl rfl (by decide) rfl rfl (of_decide_eq_true rfl) (of_decide_eq_true rfl) ?_
          refine wi_aload_n (i := 0) (x := 236) (nx := 1) (r1 := 0) (r2 := 0) (r3 := 0) rfl rfl ?_
          refine wr_gr (k0 := 236) (x := 238) (nx := 4) (r1 := 11) (r2 := 13) (r3 := 0) rfl rfl (by decide) rfl ⟨rfl, rfl⟩ rfl ?_
          refine wi_bipush (n := 74) (nx := 6) (r1 := 0) (r2 := 0) (r3 := 0) rfl (by decide) ?_
          refine wi_bipush (n := 6) (nx := 8) (r1 := 0) (r2 := 0) (r3 := 0) rfl (by decide) ?_
          refine wi_iload_n (i := 1) (e := 3) (nx := 9) (r1 := 0) (r2 := 0) (r3 := 0) rfl rfl ?_
          refine wr_mulL (18) (nx := 10) (r1 := 0) (r2 := 0) (r3 := 0) rfl (by decide) ?_
          refine wr_addL (92) (nx := 11) (r1 := 0) (r2 := 0) (r3 := 0) rfl (by decide) ?_
          refine wi_iload_n (i := 2) (e := 0) (nx := 12) (r1 := 0) (r2 := 0) (r3 := 0) rfl rfl ?_
          refine wr_addL (92) (nx := 13) (r1 := 0) (r2 := 0) (r3 := 0) rfl (by decide) ?_
          have b12 := gi_b (lo := 0) (hi := 11) g 238 92 rfl
          refine wr_ia (k0 := 238) (a := 92) (f := 92) (x := h 238 92) (nx := 14) (r1 := 0) (r2 := 0) (r3 := 0) rfl (by decide) rfl (by omega) (by omega) (by decide) rfl ?_
          refine wi_ireturn (nx := 15) (r1 := 0) (r2 := 0) (r3 := 0) rfl rfl ?_
          refine wk_i ?_
          refine wi_istore_n (i := 2) (e := h 238 92) (lo2 := [(2, vi (h 238 92)), (0, .ref 236), (1, vi 3)]) (nx := 34) (r1 := 0) (r2 := 0) (r3 := 0) rfl rfl ?_
          refine wi_aload_n (i := 0) (x := 236) (nx := 35) (r1 := 0) (r2 := 0) (r3 := 0) rfl rfl ?_
          refine wr_gr (k0 := 236) (x := 238) (nx := 38) (r1 := 11) (r2 := 13) (r3 := 0) rfl rfl (by decide) rfl ⟨rfl, rfl⟩ rfl ?_
          refine wi_bipush (n := 43) (nx := 40) (r1 := 0) (r2 := 0) (r3 := 0) rfl (by decide) ?_
          refine wi_iload_n (i := 2) (e := h 238 92) (nx := 41) (r1 := 0) (r2 := 0) (r3 := 0) rfl rfl ?_
          refine wr_add (nx := 42) (r1 := 0) (r2 := 0) (r3 := 0) rfl (fun e13 (fe13 : e13 = 43 + (h 238 92)) => ?_)
          obtain ⟨i14, ei14⟩ : ∃ q : Nat, e13 = (q : Int) := ⟨(e13).toNat, by omega⟩
          have b15 := gi_b (lo := 0) (hi := 999) g 238 i14 (gi_rg 43 12 (fun _ => rfl) (by decide +kernel) (by omega))
          refine wr_ia (k0 := 238) (a := e13) (f := i14) (x := h 238 i14) (nx := 43) (r1 := 0) (r2 := 0) (r3 := 0) rfl (by decide) rfl (by omega) (by omega) (by decide) rfl ?_
          refine wi_if (cd := .le) (nx := 46) (r1 := 71) (r2 := 0) (r3 := 0) rfl (by omega) (fun (q16 : (h 238 i14) ≤ 0) => ?_) (fun (q16 : ¬ ((h 238 i14) ≤ 0)) => ?_)
          ·
            refine wi_iload_n (i := 2) (e := h 238 92) (nx := 72) (r1 := 0) (r2 := 0) (r3 := 0) rfl rfl ?_
            refine wi_aload_n (i := 0) (x := 236) (nx := 73) (r1 := 0) (r2 := 0) (r3 := 0) rfl rfl ?_
            refine wr_gr (k0 := 236) (x := 238) (nx := 76) (r1 := 11) (r2 := 13) (r3 := 0) rfl rfl (by decide) rfl ⟨rfl, rfl⟩ rfl ?_
            refine wi_bipush (n := 106) (nx := 78) (r1 := 0) (r2 := 0) (r3 := 0) rfl (by decide) ?_
            have b17 := gi_b (lo := 0) (hi := 12) g 238 106 rfl
            refine wr_ia (k0 := 238) (a := 106) (f := 106) (x := h 238 106) (nx := 79) (r1 := 0) (r2 := 0) (r3 := 0) rfl (by decide) rfl (by omega) (by omega) (by decide) rfl ?_
            refine wr_sub (nx := 80) (r1 := 0) (r2 := 0) (r3 := 0) rfl (fun e18 (fe18 : e18 = (h 238 92) - (h 238 106)) => ?_)
            refine wi_aload_n (i := 0) (x := 236) (nx := 81) (r1 := 0) (r2 := 0) (r3 := 0) rfl rfl ?_
            refine wr_gr (k0 := 236) (x := 238) (nx := 84) (r1 := 11) (r2 := 13) (r3 := 0) rfl rfl (by decide) rfl ⟨rfl, rfl⟩ rfl ?_
            refine wi_iconst (n := 3) (nx := 85) (r1 := 0) (r2 := 0) (r3 := 0) rfl ?_
            have b19 := gi_b (lo := 0) (hi := 999) g 238 3 rfl
            refine wr_ia (k0 := 238) (a := 3) (f := 3) (x := h 238 3) (nx := 86) (r1 := 0) (r2 := 0) (r3 := 0) rfl (by decide) rfl (by omega) (by omega) (by decide) rfl ?_
            refine wi_icmp (cd := .gt) (nx := 89) (r1 := 93) (r2 := 0) (r3 := 0) rfl (by omega) (by omega) (fun (q20 : (h 238 3) < e18) => ?_) (fun (q20 : ¬ ((h 238 3) < e18)) => ?_)
            ·
              refine wi_iconst (n := 0) (nx := 94) (r1 := 0) (r2 := 0) (r3 := 0) rfl ?_
              refine wi_zreturn (nx := 95) (r1 := 0) (r2 := 0) (r3 := 0) rfl rfl (by omega) ?_
              refine wk_i ?_
              refine wi_if (cd := .ne) (nx := 22) (r1 := 25) (r2 := 0) (r3 := 0) rfl (by omega) (fun (q21 : 0 ≠ 0) => by exfalso; omega) (fun (q21 : ¬ (0 ≠ 0)) => ?_)
              refine wi_goto (nx := 25) (r1 := 73) (r2 := 0) (r3 := 0) rfl ?_
              refine wr_iincL (i := 2) (n := 1) (v := 3) (4) ([(2, vi 4), (0, .ref 236), (1, vi x1)]) (nx := 76) (r1 := 0) (r2 := 0) (r3 := 0) rfl rfl (by decide) rfl ?_
              refine wi_goto (nx := 79) (r1 := 4) (r2 := 0) (r3 := 0) rfl ?_
              refine wp.lo (lo := [(0, .ref 236), (1, vi x1), (2, vi 4)]) ⟨rfl, rfl, rfl, trivial⟩ rfl ?_
              have b22 := gi_b (lo := 0) (hi := 3) g 238 102 rfl
              have b23 := gi_b (lo := 0) (hi := 3) g 238 7 rfl
              have c25 : h 238 i14 = h 238 i14 := rfl
              have cn24 : ¬ canL (h 238) 3 := fun c => by
                have c1 : (3 : Int) + 1 ≤ h 238 1 := c.1
                have c2 : 1 ≤ h 238 101 := c.2.1
                have c3 : h 238 67 ≤ 9998 := c.2.2.1
                have c4 : ((1 ≤ h 238 (43 + (h 238 92).toNat) ∧ h 238 102 < h 238 7) ∨ (h 238 (43 + (h 238 92).toNat) ≤ 0 ∧ h 238 92 - h 238 106 ≤ h 238 3)) := c.2.2.2
                rw [show 43 + (h 238 92).toNat = i14 by omega] at c4; omega
              exact I3 x1 4 h ⟨rfl, (show (-1 ≤ x1 ∧ x1 ≤ 3) ∧ (0 ≤ 4 ∧ 4 ≤ 4) by omega), (laX.no X3_0 (by omega) 3 (by omega) cn24)⟩ (show ((4 : Int) + 1 - 4).toNat < ((4 : Int) + 1 - x2).toNat by omega)
            ·
              refine wi_iconst (n := 1) (nx := 90) (r1 := 0) (r2 := 0) (r3 := 0) rfl ?_
              refine wi_goto (nx := 93) (r1 := 94) (r2 := 0) (r3 := 0) rfl ?_
              refine wi_zreturn (nx := 95) (r1 := 0) (r2 := 0) (r3 := 0) rfl rfl (by omega) ?_
              refine wk_i ?_
              refine wi_if (cd := .ne) (nx := 22) (r1 := 25) (r2 := 0) (r3 := 0) rfl (by omega) (fun (q21 : 1 ≠ 0) => ?_) (fun (q21 : ¬ (1 ≠ 0)) => by exfalso; omega)
              refine wi_aload_n (i := 0) (x := 236) (nx := 26) (r1 := 0) (r2 := 0) (r3 := 0) rfl rfl ?_
              refine wr_gr (k0 := 236) (x := 238) (nx := 29) (r1 := 11) (r2 := 13) (r3 := 0) rfl rfl (by decide) rfl ⟨rfl, rfl⟩ rfl ?_
              refine wi_bipush (n := 31) (nx := 31) (r1 := 0) (r2 := 0) (r3 := 0) rfl (by decide) ?_
              refine wi_aload_n (i := 0) (x := 236) (nx := 32) (r1 := 0) (r2 := 0) (r3 := 0) rfl rfl ?_
              refine wi_iload_n (i := 2) (e := 3) (nx := 33) (r1 := 0) (r2 := 0) (r3 := 0) rfl rfl ?_
              refine wi_iconst (n := 0) (nx := 34) (r1 := 0) (r2 := 0) (r3 := 0) rfl ?_
              refine wr_V (k0 := 236) (rest := [vi 31, .ref 238]) (as := [.ref 236, vi 3, vi 0]) (nx := 37) (r1 := 258) (r2 := 2) (r3 := 11) rfl rfl rfl (of_decide_eq_true rfl) rfl rfl (by decide) rfl rfl (of_decide_eq_true rfl) (of_decide_eq_true rfl) ?_
              refine wi_aload_n (i := 0) (x := 236) (nx := 1) (r1 := 0) (r2 := 0) (r3 := 0) rfl rfl ?_
              refine wr_gr (k0 := 236) (x := 238) (nx := 4) (r1 := 11) (r2 := 13) (r3 := 0) rfl rfl (by decide) rfl ⟨rfl, rfl⟩ rfl ?_
              refine wi_bipush (n := 74) (nx := 6) (r1 := 0) (r2 := 0) (r3 := 0) rfl (by decide) ?_
              refine wi_bipush (n := 6) (nx := 8) (r1 := 0) (r2 := 0) (r3 := 0) rfl (by decide) ?_
              refine wi_iload_n (i := 1) (e := 3) (nx := 9) (r1 := 0) (r2 := 0) (r3 := 0) rfl rfl ?_
              refine wr_mulL (18) (nx := 10) (r1 := 0) (r2 := 0) (r3 := 0) rfl (by decide) ?_
              refine wr_addL (92) (nx := 11) (r1 := 0) (r2 := 0) (r3 := 0) rfl (by decide) ?_
              refine wi_iload_n (i := 2) (e := 0) (nx := 12) (r1 := 0) (r2 := 0) (r3 := 0) rfl rfl ?_
              refine wr_addL (92) (nx := 13) (r1 := 0) (r2 := 0) (r3 := 0) rfl (by decide) ?_
              refine wr_ia (k0 := 238) (a := 92) (f := 92) (x := h 238 92) (nx := 14) (r1 := 0) (r2 := 0) (r3 := 0) rfl (by decide) rfl (by omega) (by omega) (by decide) rfl ?_
              refine wi_ireturn (nx := 15) (r1 := 0) (r2 := 0) (r3 := 0) rfl rfl ?_
              refine wk_i ?_
              refine wr_add (nx := 38) (r1 := 0) (r2 := 0) (r3 := 0) rfl (fun e22 (fe22 : e22 = 31 + (h 238 92)) => ?_)
              obtain ⟨i23, ei23⟩ : ∃ q : Nat, e22 = (q : Int) := ⟨(e22).toNat, by omega⟩
              have b24 := gi_b (lo := 0) (hi := 4) g 238 i23 (gi_rg 31 12 (fun _ => rfl) (by decide +kernel) (by omega))
              refine wr_ia (k0 := 238) (a := e22) (f := i23) (x := h 238 i23) (nx := 39) (r1 := 0) (r2 := 0) (r3 := 0) rfl (by decide) rfl (by omega) (by omega) (by decide) rfl ?_
              refine wi_aload_n (i := 0) (x := 236) (nx := 40) (r1 := 0) (r2 := 0) (r3 := 0) rfl rfl ?_
              refine wr_gr (k0 := 236) (x := 238) (nx := 43) (r1 := 11) (r2 := 13) (r3 := 0) rfl rfl (by decide) rfl ⟨rfl, rfl⟩ rfl ?_
              refine wi_bipush (n := 68) (nx := 45) (r1 := 0) (r2 := 0) (r3 := 0) rfl (by decide) ?_
              have b25 := gi_b (lo := -1) (hi := 4) g 238 68 rfl
              refine wr_ia (k0 := 238) (a := 68) (f := 68) (x := h 238 68) (nx := 46) (r1 := 0) (r2 := 0) (r3 := 0) rfl (by decide) rfl (by omega) (by omega) (by decide) rfl ?_
              refine wi_icmp (cd := .ne) (nx := 49) (r1 := 51) (r2 := 0) (r3 := 0) rfl (by omega) (by omega) (fun (q26 : (h 238 i23) ≠ (h 238 68)) => ?_) (fun (q26 : ¬ ((h 238 i23) ≠ (h 238 68))) => ?_)
              ·
                refine wi_iload_n (i := 1) (e := x1) (nx := 52) (r1 := 0) (r2 := 0) (r3 := 0) rfl rfl ?_
                refine wi_iconst (n := (-1)) (nx := 53) (r1 := 0) (r2 := 0) (r3 := 0) rfl ?_
                refine wi_icmp (cd := .eq) (nx := 56) (r1 := 71) (r2 := 0) (r3 := 0) rfl (by omega) (by omega) (fun (q27 : x1 = (-1)) => ?_) (fun (q27 : ¬ (x1 = (-1))) => ?_)
                ·
                  refine wi_iload_n (i := 2) (e := 3) (nx := 72) (r1 := 0) (r2 := 0) (r3 := 0) rfl rfl ?_
                  refine wi_istore_n (i := 1) (e := 3) (lo2 := [(1, vi 3), (0, .ref 236), (2, vi 3)]) (nx := 73) (r1 := 0) (r2 := 0) (r3 := 0) rfl rfl ?_
                  refine wr_iincL (i := 2) (n := 1) (v := 3) (4) ([(2, vi 4), (1, vi 3), (0, .ref 236)]) (nx := 76) (r1 := 0) (r2 := 0) (r3 := 0) rfl rfl (by decide) rfl ?_
                  refine wi_goto (nx := 79) (r1 := 4) (r2 := 0) (r3 := 0) rfl ?_
                  refine wp.lo (lo := [(0, .ref 236), (1, vi 3), (2, vi 4)]) ⟨rfl, rfl, rfl, trivial⟩ rfl ?_
                  have b28 := gi_b (lo := 0) (hi := 3) g 238 102 rfl
                  have b29 := gi_b (lo := 0) (hi := 3) g 238 7 rfl
                  have c31 : h 238 i14 = h 238 i14 := rfl
                  have cn30 : canL (h 238) 3 := ⟨(show (3 : Int) + 1 ≤ h 238 1 by omega), (show 1 ≤ h 238 101 by omega), (show h 238 67 ≤ 9998 by omega), (show ((1 ≤ h 238 (43 + (h 238 92).toNat) ∧ h 238 102 < h 238 7) ∨ (h 238 (43 + (h 238 92).toNat) ≤ 0 ∧ h 238 92 - h 238 106 ≤ h 238 3)) by rw [show 43 + (h 238 92).toNat = i14 by omega]; omega)⟩
                  exact I3 3 4 h ⟨rfl, (show (-1 ≤ 3 ∧ 3 ≤ 3) ∧ (0 ≤ 4 ∧ 4 ≤ 4) by omega), (laX.yes 3 (by decide) (by omega) cn30)⟩ (show ((4 : Int) + 1 - 4).toNat < ((4 : Int) + 1 - x2).toNat by omega)
                ·
                  refine wi_aload_n (i := 0) (x := 236) (nx := 57) (r1 := 0) (r2 := 0) (r3 := 0) rfl rfl ?_
                  refine wi_iload_n (i := 2) (e := 3) (nx := 58) (r1 := 0) (r2 := 0) (r3 := 0) rfl rfl ?_
                  refine wi_iconst (n := 0) (nx := 59) (r1 := 0) (r2 := 0) (r3 := 0) rfl ?_
                  refine wr_V (k0 := 236) (rest := []) (as := [.ref 236, vi 3, vi 0]) (nx := 62) (r1 := 258) (r2 := 2) (r3 := 11) rfl rfl rfl (of_decide_eq_true rfl) rfl rfl (by decide) rfl rfl (of_decide_eq_true rfl) (of_decide_eq_true rfl) ?_
                  refine wi_aload_n (i := 0) (x := 236) (nx := 1) (r1 := 0) (r2 := 0) (r3 := 0) rfl rfl ?_
                  refine wr_gr (k0 := 236) (x := 238) (nx := 4) (r1 := 11) (r2 := 13) (r3 := 0) rfl rfl (by decide) rfl ⟨rfl, rfl⟩ rfl ?_
                  refine wi_bipush (n := 74) (nx := 6) (r1 := 0) (r2 := 0) (r3 := 0) rfl (by decide) ?_
                  refine wi_bipush (n := 6) (nx := 8) (r1 := 0) (r2 := 0) (r3 := 0) rfl (by decide) ?_
                  refine wi_iload_n (i := 1) (e := 3) (nx := 9) (r1 := 0) (r2 := 0) (r3 := 0) rfl rfl ?_
                  refine wr_mulL (18) (nx := 10) (r1 := 0) (r2 := 0) (r3 := 0) rfl (by decide) ?_
                  refine wr_addL (92) (nx := 11) (r1 := 0) (r2 := 0) (r3 := 0) rfl (by decide) ?_
                  refine wi_iload_n (i := 2) (e := 0) (nx := 12) (r1 := 0) (r2 := 0) (r3 := 0) rfl rfl ?_
                  refine wr_addL (92) (nx := 13) (r1 := 0) (r2 := 0) (r3 := 0) rfl (by decide) ?_
                  refine wr_ia (k0 := 238) (a := 92) (f := 92) (x := h 238 92) (nx := 14) (r1 := 0) (r2 := 0) (r3 := 0) rfl (by decide) rfl (by omega) (by omega) (by decide) rfl ?_
                  refine wi_ireturn (nx := 15) (r1 := 0) (r2 := 0) (r3 := 0) rfl rfl ?_
                  refine wk_i ?_
                  refine wi_aload_n (i := 0) (x := 236) (nx := 63) (r1 := 0) (r2 := 0) (r3 := 0) rfl rfl ?_
                  refine wi_iload_n (i := 1) (e := x1) (nx := 64) (r1 := 0) (r2 := 0) (r3 := 0) rfl rfl ?_
                  refine wi_iconst (n := 0) (nx := 65) (r1 := 0) (r2 := 0) (r3 := 0) rfl ?_
                  rcases (show x1 = 0 ∨ x1 = 1 ∨ x1 = 2 ∨ x1 = 3 by omega) with q28 | q28 | q28 | q28
                  ·
                    rw [q28]
                    refine wr_V (k0 := 236) (rest := [vi (h 238 92)]) (as := [.ref 236, vi 0, vi 0]) (nx := 68) (r1 := 258) (r2 := 2) (r3 := 11) rfl rfl rfl (of_decide_eq_true rfl) rfl rfl (by decide) rfl rfl (of_decide_eq_true rfl) (of_decide_eq_true rfl) ?_
                    refine wi_aload_n (i := 0) (x := 236) (nx := 1) (r1 := 0) (r2 := 0) (r3 := 0) rfl rfl ?_
                    refine wr_gr (k0 := 236) (x := 238) (nx := 4) (r1 := 11) (r2 := 13) (r3 := 0) rfl rfl (by decide) rfl ⟨rfl, rfl⟩ rfl ?_
                    refine wi_bipush (n := 74) (nx := 6) (r1 := 0) (r2 := 0) (r3 := 0) rfl (by decide) ?_
                    refine wi_bipush (n := 6) (nx := 8) (r1 := 0) (r2 := 0) (r3 := 0) rfl (by decide) ?_
                    refine wi_iload_n (i := 1) (e := 0) (nx := 9) (r1 := 0) (r2 := 0) (r3 := 0) rfl rfl ?_
                    refine wr_mulL (0) (nx := 10) (r1 := 0) (r2 := 0) (r3 := 0) rfl (by decide) ?_
                    refine wr_addL (74) (nx := 11) (r1 := 0) (r2 := 0) (r3 := 0) rfl (by decide) ?_
                    refine wi_iload_n (i := 2) (e := 0) (nx := 12) (r1 := 0) (r2 := 0) (r3 := 0) rfl rfl ?_
                    refine wr_addL (74) (nx := 13) (r1 := 0) (r2 := 0) (r3 := 0) rfl (by decide) ?_
                    have b29 := gi_b (lo := 0) (hi := 11) g 238 74 rfl
                    refine wr_ia (k0 := 238) (a := 74) (f := 74) (x := h 238 74) (nx := 14) (r1 := 0) (r2 := 0) (r3 := 0) rfl (by decide) rfl (by omega) (by omega) (by decide) rfl ?_
                    refine wi_ireturn (nx := 15) (r1 := 0) (r2 := 0) (r3 := 0) rfl rfl ?_
                    refine wk_i ?_
                    refine wi_icmp (cd := .ge) (nx := 71) (r1 := 73) (r2 := 0) (r3 := 0) rfl (by omega) (by omega) (fun (q30 : (h 238 74) ≤ (h 238 92)) => ?_) (fun (q30 : ¬ ((h 238 74) ≤ (h 238 92))) => ?_)
                    ·
                      refine wr_iincL (i := 2) (n := 1) (v := 3) (4) ([(2, vi 4), (0, .ref 236), (1, vi 0)]) (nx := 76) (r1 := 0) (r2 := 0) (r3 := 0) rfl rfl (by decide) rfl ?_
                      refine wi_goto (nx := 79) (r1 := 4) (r2 := 0) (r3 := 0) rfl ?_
                      refine wp.lo (lo := [(0, .ref 236), (1, vi 0), (2, vi 4)]) ⟨rfl, rfl, rfl, trivial⟩ rfl ?_
                      have b31 := gi_b (lo := 0) (hi := 3) g 238 102 rfl
                      have b32 := gi_b (lo := 0) (hi := 3) g 238 7 rfl
                      have c34 : h 238 i14 = h 238 i14 := rfl
                      have cn33 : canL (h 238) 3 := ⟨(show (3 : Int) + 1 ≤ h 238 1 by omega), (show 1 ≤ h 238 101 by omega), (show h 238 67 ≤ 9998 by omega), (show ((1 ≤ h 238 (43 + (h 238 92).toNat) ∧ h 238 102 < h 238 7) ∨ (h 238 (43 + (h 238 92).toNat) ≤ 0 ∧ h 238 92 - h 238 106 ≤ h 238 3)) by rw [show 43 + (h 238 92).toNat = i14 by omega]; omega)⟩
                      exact I3 0 4 h ⟨rfl, (show (-1 ≤ 0 ∧ 0 ≤ 3) ∧ (0 ≤ 4 ∧ 4 ≤ 4) by omega), (laX.yes 3 (by decide) (by omega) cn33)⟩ (show ((4 : Int) + 1 - 4).toNat < ((4 : Int) + 1 - x2).toNat by omega)
                    ·
                      refine wi_iload_n (i := 2) (e := 3) (nx := 72) (r1 := 0) (r2 := 0) (r3 := 0) rfl rfl ?_
                      refine wi_istore_n (i := 1) (e := 3) (lo2 := [(1, vi 3), (0, .ref 236), (2, vi 3)]) (nx := 73) (r1 := 0) (r2 := 0) (r3 := 0) rfl rfl ?_
                      refine wr_iincL (i := 2) (n := 1) (v := 3) (4) ([(2, vi 4), (1, vi 3), (0, .ref 236)]) (nx := 76) (r1 := 0) (r2 := 0) (r3 := 0) rfl rfl (by decide) rfl ?_
                      refine wi_goto (nx := 79) (r1 := 4) (r2 := 0) (r3 := 0) rfl ?_
                      refine wp.lo (lo := [(0, .ref 236), (1, vi 3), (2, vi 4)]) ⟨rfl, rfl, rfl, trivial⟩ rfl ?_
                      have b31 := gi_b (lo := 0) (hi := 3) g 238 102 rfl
                      have b32 := gi_b (lo := 0) (hi := 3) g 238 7 rfl
                      have c34 : h 238 i14 = h 238 i14 := rfl
                      have cn33 : canL (h 238) 3 := ⟨(show (3 : Int) + 1 ≤ h 238 1 by omega), (show 1 ≤ h 238 101 by omega), (show h 238 67 ≤ 9998 by omega), (show ((1 ≤ h 238 (43 + (h 238 92).toNat) ∧ h 238 102 < h 238 7) ∨ (h 238 (43 + (h 238 92).toNat) ≤ 0 ∧ h 238 92 - h 238 106 ≤ h 238 3)) by rw [show 43 + (h 238 92).toNat = i14 by omega]; omega)⟩
                      exact I3 3 4 h ⟨rfl, (show (-1 ≤ 3 ∧ 3 ≤ 3) ∧ (0 ≤ 4 ∧ 4 ≤ 4) by omega), (laX.yes 3 (by decide) (by omega) cn33)⟩ (show ((4 : Int) + 1 - 4).toNat < ((4 : Int) + 1 - x2).toNat by omega)
                  ·
                    rw [q28]
                    refine wr_V (k0 := 236) (rest := [vi (h 238 92)]) (as := [.ref 236, vi 1, vi 0]) (nx := 68) (r1 := 258) (r2 := 2) (r3 := 11) rfl rfl rfl (of_decide_eq_true rfl) rfl rfl (by decide) rfl rfl (of_decide_eq_true rfl) (of_decide_eq_true rfl) ?_
                    refine wi_aload_n (i := 0) (x := 236) (nx := 1) (r1 := 0) (r2 := 0) (r3 := 0) rfl rfl ?_
                    refine wr_gr (k0 := 236) (x := 238) (nx := 4) (r1 := 11) (r2 := 13) (r3 := 0) rfl rfl (by decide) rfl ⟨rfl, rfl⟩ rfl ?_
                    refine wi_bipush (n := 74) (nx := 6) (r1 := 0) (r2 := 0) (r3 := 0) rfl (by decide) ?_
                    refine wi_bipush (n := 6) (nx := 8) (r1 := 0) (r2 := 0) (r3 := 0) rfl (by decide) ?_
                    refine wi_iload_n (i := 1) (e := 1) (nx := 9) (r1 := 0) (r2 := 0) (r3 := 0) rfl rfl ?_
                    refine wr_mulL (6) (nx := 10) (r1 := 0) (r2 := 0) (r3 := 0) rfl (by decide) ?_
                    refine wr_addL (80) (nx := 11) (r1 := 0) (r2 := 0) (r3 := 0) rfl (by decide) ?_
                    refine wi_iload_n (i := 2) (e := 0) (nx := 12) (r1 := 0) (r2 := 0) (r3 := 0) rfl rfl ?_
                    refine wr_addL (80) (nx := 13) (r1 := 0) (r2 := 0) (r3 := 0) rfl (by decide) ?_
                    have b29 := gi_b (lo := 0) (hi := 11) g 238 80 rfl
                    refine wr_ia (k0 := 238) (a := 80) (f := 80) (x := h 238 80) (nx := 14) (r1 := 0) (r2 := 0) (r3 := 0) rfl (by decide) rfl (by omega) (by omega) (by decide) rfl ?_
                    refine wi_ireturn (nx := 15) (r1 := 0) (r2 := 0) (r3 := 0) rfl rfl ?_
                    refine wk_i ?_
                    refine wi_icmp (cd := .ge) (nx := 71) (r1 := 73) (r2 := 0) (r3 := 0) rfl (by omega) (by omega) (fun (q30 : (h 238 80) ≤ (h 238 92)) => ?_) (fun (q30 : ¬ ((h 238 80) ≤ (h 238 92))) => ?_)
                    ·
                      refine wr_iincL (i := 2) (n := 1) (v := 3) (4) ([(2, vi 4), (0, .ref 236), (1, vi 1)]) (nx := 76) (r1 := 0) (r2 := 0) (r3 := 0) rfl rfl (by decide) rfl ?_
                      refine wi_goto (nx := 79) (r1 := 4) (r2 := 0) (r3 := 0) rfl ?_
                      refine wp.lo (lo := [(0, .ref 236), (1, vi 1), (2, vi 4)]) ⟨rfl, rfl, rfl, trivial⟩ rfl ?_
                      have b31 := gi_b (lo := 0) (hi := 3) g 238 102 rfl
                      have b32 := gi_b (lo := 0) (hi := 3) g 238 7 rfl
                      have c34 : h 238 i14 = h 238 i14 := rfl
                      have cn33 : canL (h 238) 3 := ⟨(show (3 : Int) + 1 ≤ h 238 1 by omega), (show 1 ≤ h 238 101 by omega), (show h 238 67 ≤ 9998 by omega), (show ((1 ≤ h 238 (43 + (h 238 92).toNat) ∧ h 238 102 < h 238 7) ∨ (h 238 (43 + (h 238 92).toNat) ≤ 0 ∧ h 238 92 - h 238 106 ≤ h 238 3)) by rw [show 43 + (h 238 92).toNat = i14 by omega]; omega)⟩
                      exact I3 1 4 h ⟨rfl, (show (-1 ≤ 1 ∧ 1 ≤ 3) ∧ (0 ≤ 4 ∧ 4 ≤ 4) by omega), (laX.yes 3 (by decide) (by omega) cn33)⟩ (show ((4 : Int) + 1 - 4).toNat < ((4 : Int) + 1 - x2).toNat by omega)
                    ·
                      refine wi_iload_n (i := 2) (e := 3) (nx := 72) (r1 := 0) (r2 := 0) (r3 := 0) rfl rfl ?_
                      refine wi_istore_n (i := 1) (e := 3) (lo2 := [(1, vi 3), (0, .ref 236), (2, vi 3)]) (nx := 73) (r1 := 0) (r2 := 0) (r3 := 0) rfl rfl ?_
                      refine wr_iincL (i := 2) (n := 1) (v := 3) (4) ([(2, vi 4), (1, vi 3), (0, .ref 236)]) (nx := 76) (r1 := 0) (r2 := 0) (r3 := 0) rfl rfl (by decide) rfl ?_
                      refine wi_goto (nx := 79) (r1 := 4) (r2 := 0) (r3 := 0) rfl ?_
                      refine wp.lo (lo := [(0, .ref 236), (1, vi 3), (2, vi 4)]) ⟨rfl, rfl, rfl, trivial⟩ rfl ?_
                      have b31 := gi_b (lo := 0) (hi := 3) g 238 102 rfl
                      have b32 := gi_b (lo := 0) (hi := 3) g 238 7 rfl
                      have c34 : h 238 i14 = h 238 i14 := rfl
                      have cn33 : canL (h 238) 3 := ⟨(show (3 : Int) + 1 ≤ h 238 1 by omega), (show 1 ≤ h 238 101 by omega), (show h 238 67 ≤ 9998 by omega), (show ((1 ≤ h 238 (43 + (h 238 92).toNat) ∧ h 238 102 < h 238 7) ∨ (h 238 (43 + (h 238 92).toNat) ≤ 0 ∧ h 238 92 - h 238 106 ≤ h 238 3)) by rw [show 43 + (h 238 92).toNat = i14 by omega]; omega)⟩
                      exact I3 3 4 h ⟨rfl, (show (-1 ≤ 3 ∧ 3 ≤ 3) ∧ (0 ≤ 4 ∧ 4 ≤ 4) by omega), (laX.yes 3 (by decide) (by omega) cn33)⟩ (show ((4 : Int) + 1 - 4).toNat < ((4 : Int) + 1 - x2).toNat by omega)
                  ·
                    rw [q28]
                    refine wr_V (k0 := 236) (rest := [vi (h 238 92)]) (as := [.ref 236, vi 2, vi 0]) (nx := 68) (r1 := 258) (r2 := 2) (r3 := 11) rfl rfl rfl (of_decide_eq_true rfl) rfl rfl (by decide) rfl rfl (of_decide_eq_true rfl) (of_decide_eq_true rfl) ?_
                    refine wi_aload_n (i := 0) (x := 236) (nx := 1) (r1 := 0) (r2 := 0) (r3 := 0) rfl rfl ?_
                    refine wr_gr (k0 := 236) (x := 238) (nx := 4) (r1 := 11) (r2 := 13) (r3 := 0) rfl rfl (by decide) rfl ⟨rfl, rfl⟩ rfl ?_
                    refine wi_bipush (n := 74) (nx := 6) (r1 := 0) (r2 := 0) (r3 := 0) rfl (by decide) ?_
                    refine wi_bipush (n := 6) (nx := 8) (r1 := 0) (r2 := 0) (r3 := 0) rfl (by decide) ?_
                    refine wi_iload_n (i := 1) (e := 2) (nx := 9) (r1 := 0) (r2 := 0) (r3 := 0) rfl rfl ?_
                    refine wr_mulL (12) (nx := 10) (r1 := 0) (r2 := 0) (r3 := 0) rfl (by decide) ?_
                    refine wr_addL (86) (nx := 11) (r1 := 0) (r2 := 0) (r3 := 0) rfl (by decide) ?_
                    refine wi_iload_n (i := 2) (e := 0) (nx := 12) (r1 := 0) (r2 := 0) (r3 := 0) rfl rfl ?_
                    refine wr_addL (86) (nx := 13) (r1 := 0) (r2 := 0) (r3 := 0) rfl (by decide) ?_
                    have b29 := gi_b (lo := 0) (hi := 11) g 238 86 rfl
                    refine wr_ia (k0 := 238) (a := 86) (f := 86) (x := h 238 86) (nx := 14) (r1 := 0) (r2 := 0) (r3 := 0) rfl (by decide) rfl (by omega) (by omega) (by decide) rfl ?_
                    refine wi_ireturn (nx := 15) (r1 := 0) (r2 := 0) (r3 := 0) rfl rfl ?_
                    refine wk_i ?_
                    refine wi_icmp (cd := .ge) (nx := 71) (r1 := 73) (r2 := 0) (r3 := 0) rfl (by omega) (by omega) (fun (q30 : (h 238 86) ≤ (h 238 92)) => ?_) (fun (q30 : ¬ ((h 238 86) ≤ (h 238 92))) => ?_)
                    ·
                      refine wr_iincL (i := 2) (n := 1) (v := 3) (4) ([(2, vi 4), (0, .ref 236), (1, vi 2)]) (nx := 76) (r1 := 0) (r2 := 0) (r3 := 0) rfl rfl (by decide) rfl ?_
                      refine wi_goto (nx := 79) (r1 := 4) (r2 := 0) (r3 := 0) rfl ?_
                      refine wp.lo (lo := [(0, .ref 236), (1, vi 2), (2, vi 4)]) ⟨rfl, rfl, rfl, trivial⟩ rfl ?_
                      have b31 := gi_b (lo := 0) (hi := 3) g 238 102 rfl
                      have b32 := gi_b (lo := 0) (hi := 3) g 238 7 rfl
                      have c34 : h 238 i14 = h 238 i14 := rfl
                      have cn33 : canL (h 238) 3 := ⟨(show (3 : Int) + 1 ≤ h 238 1 by omega), (show 1 ≤ h 238 101 by omega), (show h 238 67 ≤ 9998 by omega), (show ((1 ≤ h 238 (43 + (h 238 92).toNat) ∧ h 238 102 < h 238 7) ∨ (h 238 (43 + (h 238 92).toNat) ≤ 0 ∧ h 238 92 - h 238 106 ≤ h 238 3)) by rw [show 43 + (h 238 92).toNat = i14 by omega]; omega)⟩
                      exact I3 2 4 h ⟨rfl, (show (-1 ≤ 2 ∧ 2 ≤ 3) ∧ (0 ≤ 4 ∧ 4 ≤ 4) by omega), (laX.yes 3 (by decide) (by omega) cn33)⟩ (show ((4 : Int) + 1 - 4).toNat < ((4 : Int) + 1 - x2).toNat by omega)
                    ·
                      refine wi_iload_n (i := 2) (e := 3) (nx := 72) (r1 := 0) (r2 := 0) (r3 := 0) rfl rfl ?_
                      refine wi_istore_n (i := 1) (e := 3) (lo2 := [(1, vi 3), (0, .ref 236), (2, vi 3)]) (nx := 73) (r1 := 0) (r2 := 0) (r3 := 0) rfl rfl ?_
                      refine wr_iincL (i := 2) (n := 1) (v := 3) (4) ([(2, vi 4), (1, vi 3), (0, .ref 236)]) (nx := 76) (r1 := 0) (r2 := 0) (r3 := 0) rfl rfl (by decide) rfl ?_
                      refine wi_goto (nx := 79) (r1 := 4) (r2 := 0) (r3 := 0) rfl ?_
                      refine wp.lo (lo := [(0, .ref 236), (1, vi 3), (2, vi 4)]) ⟨rfl, rfl, rfl, trivial⟩ rfl ?_
                      have b31 := gi_b (lo := 0) (hi := 3) g 238 102 rfl
                      have b32 := gi_b (lo := 0) (hi := 3) g 238 7 rfl
                      have c34 : h 238 i14 = h 238 i14 := rfl
                      have cn33 : canL (h 238) 3 := ⟨(show (3 : Int) + 1 ≤ h 238 1 by omega), (show 1 ≤ h 238 101 by omega), (show h 238 67 ≤ 9998 by omega), (show ((1 ≤ h 238 (43 + (h 238 92).toNat) ∧ h 238 102 < h 238 7) ∨ (h 238 (43 + (h 238 92).toNat) ≤ 0 ∧ h 238 92 - h 238 106 ≤ h 238 3)) by rw [show 43 + (h 238 92).toNat = i14 by omega]; omega)⟩
                      exact I3 3 4 h ⟨rfl, (show (-1 ≤ 3 ∧ 3 ≤ 3) ∧ (0 ≤ 4 ∧ 4 ≤ 4) by omega), (laX.yes 3 (by decide) (by omega) cn33)⟩ (show ((4 : Int) + 1 - 4).toNat < ((4 : Int) + 1 - x2).toNat by omega)
                  ·
                    rw [q28]
                    refine wr_V (k0 := 236) (rest := [vi (h 238 92)]) (as := [.ref 236, vi 3, vi 0]) (nx := 68) (r1 := 258) (r2 := 2) (r3 := 11) rfl rfl rfl (of_decide_eq_true rfl) rfl rfl (by decide) rfl rfl (of_decide_eq_true rfl) (of_decide_eq_true rfl) ?_
                    refine wi_aload_n (i := 0) (x := 236) (nx := 1) (r1 := 0) (r2 := 0) (r3 := 0) rfl rfl ?_
                    refine wr_gr (k0 := 236) (x := 238) (nx := 4) (r1 := 11) (r2 := 13) (r3 := 0) rfl rfl (by decide) rfl ⟨rfl, rfl⟩ rfl ?_
                    refine wi_bipush (n := 74) (nx := 6) (r1 := 0) (r2 := 0) (r3 := 0) rfl (by decide) ?_
                    refine wi_bipush (n := 6) (nx := 8) (r1 := 0) (r2 := 0) (r3 := 0) rfl (by decide) ?_
                    refine wi_iload_n (i := 1) (e := 3) (nx := 9) (r1 := 0) (r2 := 0) (r3 := 0) rfl rfl ?_
                    refine wr_mulL (18) (nx := 10) (r1 := 0) (r2 := 0) (r3 := 0) rfl (by decide) ?_
                    refine wr_addL (92) (nx := 11) (r1 := 0) (r2 := 0) (r3 := 0) rfl (by decide) ?_
                    refine wi_iload_n (i := 2) (e := 0) (nx := 12) (r1 := 0) (r2 := 0) (r3 := 0) rfl rfl ?_
                    refine wr_addL (92) (nx := 13) (r1 := 0) (r2 := 0) (r3 := 0) rfl (by decide) ?_
                    refine wr_ia (k0 := 238) (a := 92) (f := 92) (x := h 238 92) (nx := 14) (r1 := 0) (r2 := 0) (r3 := 0) rfl (by decide) rfl (by omega) (by omega) (by decide) rfl ?_
                    refine wi_ireturn (nx := 15) (r1 := 0) (r2 := 0) (r3 := 0) rfl rfl ?_
                    refine wk_i ?_
                    refine wi_icmp (cd := .ge) (nx := 71) (r1 := 73) (r2 := 0) (r3 := 0) rfl (by omega) (by omega) (fun (q29 : (h 238 92) ≤ (h 238 92)) => ?_) (fun (q29 : ¬ ((h 238 92) ≤ (h 238 92))) => by exfalso; omega)
                    refine wr_iincL (i := 2) (n := 1) (v := 3) (4) ([(2, vi 4), (0, .ref 236), (1, vi 3)]) (nx := 76) (r1 := 0) (r2 := 0) (r3 := 0) rfl rfl (by decide) rfl ?_
                    refine wi_goto (nx := 79) (r1 := 4) (r2 := 0) (r3 := 0) rfl ?_
                    refine wp.lo (lo := [(0, .ref 236), (1, vi 3), (2, vi 4)]) ⟨rfl, rfl, rfl, trivial⟩ rfl ?_
                    have b30 := gi_b (lo := 0) (hi := 3) g 238 102 rfl
                    have b31 := gi_b (lo := 0) (hi := 3) g 238 7 rfl
                    have c33 : h 238 i14 = h 238 i14 := rfl
                    have cn32 : canL (h 238) 3 := ⟨(show (3 : Int) + 1 ≤ h 238 1 by omega), (show 1 ≤ h 238 101 by omega), (show h 238 67 ≤ 9998 by omega), (show ((1 ≤ h 238 (43 + (h 238 92).toNat) ∧ h 238 102 < h 238 7) ∨ (h 238 (43 + (h 238 92).toNat) ≤ 0 ∧ h 238 92 - h 238 106 ≤ h 238 3)) by rw [show 43 + (h 238 92).toNat = i14 by omega]; omega)⟩
                    exact I3 3 4 h ⟨rfl, (show (-1 ≤ 3 ∧ 3 ≤ 3) ∧ (0 ≤ 4 ∧ 4 ≤ 4) by omega), (laX.yes 3 (by decide) (by omega) cn32)⟩ (show ((4 : Int) + 1 - 4).toNat < ((4 : Int) + 1 - x2).toNat by omega)
              ·
                refine wi_iload_n (i := 2) (e := 3) (nx := 50) (r1 := 0) (r2 := 0) (r3 := 0) rfl rfl ?_
                refine wi_ireturn (nx := 51) (r1 := 0) (r2 := 0) (r3 := 0) rfl rfl ?_
                have b27 := gi_b (lo := 0) (hi := 3) g 238 102 rfl
                have b28 := gi_b (lo := 0) (hi := 3) g 238 7 rfl
                have c30 : h 238 i14 = h 238 i14 := rfl
                have cn29 : canL (h 238) 3 := ⟨(show (3 : Int) + 1 ≤ h 238 1 by omega), (show 1 ≤ h 238 101 by omega), (show h 238 67 ≤ 9998 by omega), (show ((1 ≤ h 238 (43 + (h 238 92).toNat) ∧ h 238 102 < h 238 7) ∨ (h 238 (43 + (h 238 92).toNat) ≤ 0 ∧ h 238 92 - h 238 106 ≤ h 238 3)) by rw [show 43 + (h 238 92).toNat = i14 by omega]; omega)⟩
                exact k 3 (by omega) (laX.yes 3 (by decide) (by omega) cn29)
          ·
            refine wi_aload_n (i := 0) (x := 236) (nx := 47) (r1 := 0) (r2 := 0) (r3 := 0) rfl rfl ?_
            refine wr_gr (k0 := 236) (x := 238) (nx := 50) (r1 := 11) (r2 := 13) (r3 := 0) rfl rfl (by decide) rfl ⟨rfl, rfl⟩ rfl ?_
            refine wi_bipush (n := 102) (nx := 52) (r1 := 0) (r2 := 0) (r3 := 0) rfl (by decide) ?_
            have b17 := gi_b (lo := 0) (hi := 3) g 238 102 rfl
            refine wr_ia (k0 := 238) (a := 102) (f := 102) (x := h 238 102) (nx := 53) (r1 := 0) (r2 := 0) (r3 := 0) rfl (by decide) rfl (by omega) (by omega) (by decide) rfl ?_
            refine wi_aload_n (i := 0) (x := 236) (nx := 54) (r1 := 0) (r2 := 0) (r3 := 0) rfl rfl ?_
            refine wr_gr (k0 := 236) (x := 238) (nx := 57) (r1 := 11) (r2 := 13) (r3 := 0) rfl rfl (by decide) rfl ⟨rfl, rfl⟩ rfl ?_
            refine wi_bipush (n := 7) (nx := 59) (r1 := 0) (r2 := 0) (r3 := 0) rfl (by decide) ?_
            have b18 := gi_b (lo := 0) (hi := 3) g 238 7 rfl
            refine wr_ia (k0 := 238) (a := 7) (f := 7) (x := h 238 7) (nx := 60) (r1 := 0) (r2 := 0) (r3 := 0) rfl (by decide) rfl (by omega) (by omega) (by decide) rfl ?_
            refine wi_icmp (cd := .ge) (nx := 63) (r1 := 67) (r2 := 0) (r3 := 0) rfl (by omega) (by omega) (fun (q19 : (h 238 7) ≤ (h 238 102)) => ?_) (fun (q19 : ¬ ((h 238 7) ≤ (h 238 102))) => ?_)
            ·
              refine wi_iconst (n := 0) (nx := 68) (r1 := 0) (r2 := 0) (r3 := 0) rfl ?_
              refine wi_goto (nx := 71) (r1 := 94) (r2 := 0) (r3 := 0) rfl ?_
              refine wi_zreturn (nx := 95) (r1 := 0) (r2 := 0) (r3 := 0) rfl rfl (by omega) ?_
              refine wk_i ?_
              refine wi_if (cd := .ne) (nx := 22) (r1 := 25) (r2 := 0) (r3 := 0) rfl (by omega) (fun (q20 : 0 ≠ 0) => by exfalso; omega) (fun (q20 : ¬ (0 ≠ 0)) => ?_)
              refine wi_goto (nx := 25) (r1 := 73) (r2 := 0) (r3 := 0) rfl ?_
              refine wr_iincL (i := 2) (n := 1) (v := 3) (4) ([(2, vi 4), (0, .ref 236), (1, vi x1)]) (nx := 76) (r1 := 0) (r2 := 0) (r3 := 0) rfl rfl (by decide) rfl ?_
              refine wi_goto (nx := 79) (r1 := 4) (r2 := 0) (r3 := 0) rfl ?_
              refine wp.lo (lo := [(0, .ref 236), (1, vi x1), (2, vi 4)]) ⟨rfl, rfl, rfl, trivial⟩ rfl ?_
              have b21 := gi_b (lo := 0) (hi := 12) g 238 106 rfl
              have b22 := gi_b (lo := 0) (hi := 999) g 238 3 rfl
              have c24 : h 238 i14 = h 238 i14 := rfl
              have cn23 : ¬ canL (h 238) 3 := fun c => by
                have c1 : (3 : Int) + 1 ≤ h 238 1 := c.1
                have c2 : 1 ≤ h 238 101 := c.2.1
                have c3 : h 238 67 ≤ 9998 := c.2.2.1
                have c4 : ((1 ≤ h 238 (43 + (h 238 92).toNat) ∧ h 238 102 < h 238 7) ∨ (h 238 (43 + (h 238 92).toNat) ≤ 0 ∧ h 238 92 - h 238 106 ≤ h 238 3)) := c.2.2.2
                rw [show 43 + (h 238 92).toNat = i14 by omega] at c4; omega
              exact I3 x1 4 h ⟨rfl, (show (-1 ≤ x1 ∧ x1 ≤ 3) ∧ (0 ≤ 4 ∧ 4 ≤ 4) by omega), (laX.no X3_0 (by omega) 3 (by omega) cn23)⟩ (show ((4 : Int) + 1 - 4).toNat < ((4 : Int) + 1 - x2).toNat by omega)
            ·
              refine wi_iconst (n := 1) (nx := 64) (r1 := 0) (r2 := 0) (r3 := 0) rfl ?_
              refine wi_goto (nx := 67) (r1 := 94) (r2 := 0) (r3 := 0) rfl ?_
              refine wi_zreturn (nx := 95) (r1 := 0) (r2 := 0) (r3 := 0) rfl rfl (by omega) ?_
              refine wk_i ?_
              refine wi_if (cd := .ne) (nx := 22) (r1 := 25) (r2 := 0) (r3 := 0) rfl (by omega) (fun (q20 : 1 ≠ 0) => ?_) (fun (q20 : ¬ (1 ≠ 0)) => by exfalso; omega)
              refine wi_aload_n (i := 0) (x := 236) (nx := 26) (r1 := 0) (r2 := 0) (r3 := 0) rfl rfl ?_
              refine wr_gr (k0 := 236) (x := 238) (nx := 29) (r1 := 11) (r2 := 13) (r3 := 0) rfl rfl (by decide) rfl ⟨rfl, rfl⟩ rfl ?_
              refine wi_bipush (n := 31) (nx := 31) (r1 := 0) (r2 := 0) (r3 := 0) rfl (by decide) ?_
              refine wi_aload_n (i := 0) (x := 236) (nx := 32) (r1 := 0) (r2 := 0) (r3 := 0) rfl rfl ?_
              refine wi_iload_n (i := 2) (e := 3) (nx := 33) (r1 := 0) (r2 := 0) (r3 := 0) rfl rfl ?_
              refine wi_iconst (n := 0) (nx := 34) (r1 := 0) (r2 := 0) (r3 := 0) rfl ?_
              refine wr_V (k0 := 236) (rest := [vi 31, .ref 238]) (as := [.ref 236, vi 3, vi 0]) (nx := 37) (r1 := 258) (r2 := 2) (r3 := 11) rfl rfl rfl (of_decide_eq_true rfl) rfl rfl (by decide) rfl rfl (of_decide_eq_true rfl) (of_decide_eq_true rfl) ?_
              refine wi_aload_n (i := 0) (x := 236) (nx := 1) (r1 := 0) (r2 := 0) (r3 := 0) rfl rfl ?_
              refine wr_gr (k0 := 236) (x := 238) (nx := 4) (r1 := 11) (r2 := 13) (r3 := 0) rfl rfl (by decide) rfl ⟨rfl, rfl⟩ rfl ?_
              refine wi_bipush (n := 74) (nx := 6) (r1 := 0) (r2 := 0) (r3 := 0) rfl (by decide) ?_
              refine wi_bipush (n := 6) (nx := 8) (r1 := 0) (r2 := 0) (r3 := 0) rfl (by decide) ?_
              refine wi_iload_n (i := 1) (e := 3) (nx := 9) (r1 := 0) (r2 := 0) (r3 := 0) rfl rfl ?_
              refine wr_mulL (18) (nx := 10) (r1 := 0) (r2 := 0) (r3 := 0) rfl (by decide) ?_
              refine wr_addL (92) (nx := 11) (r1 := 0) (r2 := 0) (r3 := 0) rfl (by decide) ?_
              refine wi_iload_n (i := 2) (e := 0) (nx := 12) (r1 := 0) (r2 := 0) (r3 := 0) rfl rfl ?_
              refine wr_addL (92) (nx := 13) (r1 := 0) (r2 := 0) (r3 := 0) rfl (by decide) ?_
              refine wr_ia (k0 := 238) (a := 92) (f := 92) (x := h 238 92) (nx := 14) (r1 := 0) (r2 := 0) (r3 := 0) rfl (by decide) rfl (by omega) (by omega) (by decide) rfl ?_
              refine wi_ireturn (nx := 15) (r1 := 0) (r2 := 0) (r3 := 0) rfl rfl ?_
              refine wk_i ?_
              refine wr_add (nx := 38) (r1 := 0) (r2 := 0) (r3 := 0) rfl (fun e21 (fe21 : e21 = 31 + (h 238 92)) => ?_)
              obtain ⟨i22, ei22⟩ : ∃ q : Nat, e21 = (q : Int) := ⟨(e21).toNat, by omega⟩
              have b23 := gi_b (lo := 0) (hi := 4) g 238 i22 (gi_rg 31 12 (fun _ => rfl) (by decide +kernel) (by omega))
              refine wr_ia (k0 := 238) (a := e21) (f := i22) (x := h 238 i22) (nx := 39) (r1 := 0) (r2 := 0) (r3 := 0) rfl (by decide) rfl (by omega) (by omega) (by decide) rfl ?_
              refine wi_aload_n (i := 0) (x := 236) (nx := 40) (r1 := 0) (r2 := 0) (r3 := 0) rfl rfl ?_
              refine wr_gr (k0 := 236) (x := 238) (nx := 43) (r1 := 11) (r2 := 13) (r3 := 0) rfl rfl (by decide) rfl ⟨rfl, rfl⟩ rfl ?_
              refine wi_bipush (n := 68) (nx := 45) (r1 := 0) (r2 := 0) (r3 := 0) rfl (by decide) ?_
              have b24 := gi_b (lo := -1) (hi := 4) g 238 68 rfl
              refine wr_ia (k0 := 238) (a := 68) (f := 68) (x := h 238 68) (nx := 46) (r1 := 0) (r2 := 0) (r3 := 0) rfl (by decide) rfl (by omega) (by omega) (by decide) rfl ?_
              refine wi_icmp (cd := .ne) (nx := 49) (r1 := 51) (r2 := 0) (r3 := 0) rfl (by omega) (by omega) (fun (q25 : (h 238 i22) ≠ (h 238 68)) => ?_) (fun (q25 : ¬ ((h 238 i22) ≠ (h 238 68))) => ?_)
              ·
                refine wi_iload_n (i := 1) (e := x1) (nx := 52) (r1 := 0) (r2 := 0) (r3 := 0) rfl rfl ?_
                refine wi_iconst (n := (-1)) (nx := 53) (r1 := 0) (r2 := 0) (r3 := 0) rfl ?_
                refine wi_icmp (cd := .eq) (nx := 56) (r1 := 71) (r2 := 0) (r3 := 0) rfl (by omega) (by omega) (fun (q26 : x1 = (-1)) => ?_) (fun (q26 : ¬ (x1 = (-1))) => ?_)
                ·
                  refine wi_iload_n (i := 2) (e := 3) (nx := 72) (r1 := 0) (r2 := 0) (r3 := 0) rfl rfl ?_
                  refine wi_istore_n (i := 1) (e := 3) (lo2 := [(1, vi 3), (0, .ref 236), (2, vi 3)]) (nx := 73) (r1 := 0) (r2 := 0) (r3 := 0) rfl rfl ?_
                  refine wr_iincL (i := 2) (n := 1) (v := 3) (4) ([(2, vi 4), (1, vi 3), (0, .ref 236)]) (nx := 76) (r1 := 0) (r2 := 0) (r3 := 0) rfl rfl (by decide) rfl ?_
                  refine wi_goto (nx := 79) (r1 := 4) (r2 := 0) (r3 := 0) rfl ?_
                  refine wp.lo (lo := [(0, .ref 236), (1, vi 3), (2, vi 4)]) ⟨rfl, rfl, rfl, trivial⟩ rfl ?_
                  have b27 := gi_b (lo := 0) (hi := 12) g 238 106 rfl
                  have b28 := gi_b (lo := 0) (hi := 999) g 238 3 rfl
                  have c30 : h 238 i14 = h 238 i14 := rfl
                  have cn29 : canL (h 238) 3 := ⟨(show (3 : Int) + 1 ≤ h 238 1 by omega), (show 1 ≤ h 238 101 by omega), (show h 238 67 ≤ 9998 by omega), (show ((1 ≤ h 238 (43 + (h 238 92).toNat) ∧ h 238 102 < h 238 7) ∨ (h 238 (43 + (h 238 92).toNat) ≤ 0 ∧ h 238 92 - h 238 106 ≤ h 238 3)) by rw [show 43 + (h 238 92).toNat = i14 by omega]; omega)⟩
                  exact I3 3 4 h ⟨rfl, (show (-1 ≤ 3 ∧ 3 ≤ 3) ∧ (0 ≤ 4 ∧ 4 ≤ 4) by omega), (laX.yes 3 (by decide) (by omega) cn29)⟩ (show ((4 : Int) + 1 - 4).toNat < ((4 : Int) + 1 - x2).toNat by omega)
                ·
                  refine wi_aload_n (i := 0) (x := 236) (nx := 57) (r1 := 0) (r2 := 0) (r3 := 0) rfl rfl ?_
                  refine wi_iload_n (i := 2) (e := 3) (nx := 58) (r1 := 0) (r2 := 0) (r3 := 0) rfl rfl ?_
                  refine wi_iconst (n := 0) (nx := 59) (r1 := 0) (r2 := 0) (r3 := 0) rfl ?_
                  refine wr_V (k0 := 236) (rest := []) (as := [.ref 236, vi 3, vi 0]) (nx := 62) (r1 := 258) (r2 := 2) (r3 := 11) rfl rfl rfl (of_decide_eq_true rfl) rfl rfl (by decide) rfl rfl (of_decide_eq_true rfl) (of_decide_eq_true rfl) ?_
                  refine wi_aload_n (i := 0) (x := 236) (nx := 1) (r1 := 0) (r2 := 0) (r3 := 0) rfl rfl ?_
                  refine wr_gr (k0 := 236) (x := 238) (nx := 4) (r1 := 11) (r2 := 13) (r3 := 0) rfl rfl (by decide) rfl ⟨rfl, rfl⟩ rfl ?_
                  refine wi_bipush (n := 74) (nx := 6) (r1 := 0) (r2 := 0) (r3 := 0) rfl (by decide) ?_
                  refine wi_bipush (n := 6) (nx := 8) (r1 := 0) (r2 := 0) (r3 := 0) rfl (by decide) ?_
                  refine wi_iload_n (i := 1) (e := 3) (nx := 9) (r1 := 0) (r2 := 0) (r3 := 0) rfl rfl ?_
                  refine wr_mulL (18) (nx := 10) (r1 := 0) (r2 := 0) (r3 := 0) rfl (by decide) ?_
                  refine wr_addL (92) (nx := 11) (r1 := 0) (r2 := 0) (r3 := 0) rfl (by decide) ?_
                  refine wi_iload_n (i := 2) (e := 0) (nx := 12) (r1 := 0) (r2 := 0) (r3 := 0) rfl rfl ?_
                  refine wr_addL (92) (nx := 13) (r1 := 0) (r2 := 0) (r3 := 0) rfl (by decide) ?_
                  refine wr_ia (k0 := 238) (a := 92) (f := 92) (x := h 238 92) (nx := 14) (r1 := 0) (r2 := 0) (r3 := 0) rfl (by decide) rfl (by omega) (by omega) (by decide) rfl ?_
                  refine wi_ireturn (nx := 15) (r1 := 0) (r2 := 0) (r3 := 0) rfl rfl ?_
                  refine wk_i ?_
                  refine wi_aload_n (i := 0) (x := 236) (nx := 63) (r1 := 0) (r2 := 0) (r3 := 0) rfl rfl ?_
                  refine wi_iload_n (i := 1) (e := x1) (nx := 64) (r1 := 0) (r2 := 0) (r3 := 0) rfl rfl ?_
                  refine wi_iconst (n := 0) (nx := 65) (r1 := 0) (r2 := 0) (r3 := 0) rfl ?_
                  rcases (show x1 = 0 ∨ x1 = 1 ∨ x1 = 2 ∨ x1 = 3 by omega) with q27 | q27 | q27 | q27
                  ·
                    rw [q27]
                    refine wr_V (k0 := 236) (rest := [vi (h 238 92)]) (as := [.ref 236, vi 0, vi 0]) (nx := 68) (r1 := 258) (r2 := 2) (r3 := 11) rfl rfl rfl (of_decide_eq_true rfl) rfl rfl (by decide) rfl rfl (of_decide_eq_true rfl) (of_decide_eq_true rfl) ?_
                    refine wi_aload_n (i := 0) (x := 236) (nx := 1) (r1 := 0) (r2 := 0) (r3 := 0) rfl rfl ?_
                    refine wr_gr (k0 := 236) (x := 238) (nx := 4) (r1 := 11) (r2 := 13) (r3 := 0) rfl rfl (by decide) rfl ⟨rfl, rfl⟩ rfl ?_
                    refine wi_bipush (n := 74) (nx := 6) (r1 := 0) (r2 := 0) (r3 := 0) rfl (by decide) ?_
                    refine wi_bipush (n := 6) (nx := 8) (r1 := 0) (r2 := 0) (r3 := 0) rfl (by decide) ?_
                    refine wi_iload_n (i := 1) (e := 0) (nx := 9) (r1 := 0) (r2 := 0) (r3 := 0) rfl rfl ?_
                    refine wr_mulL (0) (nx := 10) (r1 := 0) (r2 := 0) (r3 := 0) rfl (by decide) ?_
                    refine wr_addL (74) (nx := 11) (r1 := 0) (r2 := 0) (r3 := 0) rfl (by decide) ?_
                    refine wi_iload_n (i := 2) (e := 0) (nx := 12) (r1 := 0) (r2 := 0) (r3 := 0) rfl rfl ?_
                    refine wr_addL (74) (nx := 13) (r1 := 0) (r2 := 0) (r3 := 0) rfl (by decide) ?_
                    have b28 := gi_b (lo := 0) (hi := 11) g 238 74 rfl
                    refine wr_ia (k0 := 238) (a := 74) (f := 74) (x := h 238 74) (nx := 14) (r1 := 0) (r2 := 0) (r3 := 0) rfl (by decide) rfl (by omega) (by omega) (by decide) rfl ?_
                    refine wi_ireturn (nx := 15) (r1 := 0) (r2 := 0) (r3 := 0) rfl rfl ?_
                    refine wk_i ?_
                    refine wi_icmp (cd := .ge) (nx := 71) (r1 := 73) (r2 := 0) (r3 := 0) rfl (by omega) (by omega) (fun (q29 : (h 238 74) ≤ (h 238 92)) => ?_) (fun (q29 : ¬ ((h 238 74) ≤ (h 238 92))) => ?_)
                    ·
                      refine wr_iincL (i := 2) (n := 1) (v := 3) (4) ([(2, vi 4), (0, .ref 236), (1, vi 0)]) (nx := 76) (r1 := 0) (r2 := 0) (r3 := 0) rfl rfl (by decide) rfl ?_
                      refine wi_goto (nx := 79) (r1 := 4) (r2 := 0) (r3 := 0) rfl ?_
                      refine wp.lo (lo := [(0, .ref 236), (1, vi 0), (2, vi 4)]) ⟨rfl, rfl, rfl, trivial⟩ rfl ?_
                      have b30 := gi_b (lo := 0) (hi := 12) g 238 106 rfl
                      have b31 := gi_b (lo := 0) (hi := 999) g 238 3 rfl
                      have c33 : h 238 i14 = h 238 i14 := rfl
                      have cn32 : canL (h 238) 3 := ⟨(show (3 : Int) + 1 ≤ h 238 1 by omega), (show 1 ≤ h 238 101 by omega), (show h 238 67 ≤ 9998 by omega), (show ((1 ≤ h 238 (43 + (h 238 92).toNat) ∧ h 238 102 < h 238 7) ∨ (h 238 (43 + (h 238 92).toNat) ≤ 0 ∧ h 238 92 - h 238 106 ≤ h 238 3)) by rw [show 43 + (h 238 92).toNat = i14 by omega]; omega)⟩
                      exact I3 0 4 h ⟨rfl, (show (-1 ≤ 0 ∧ 0 ≤ 3) ∧ (0 ≤ 4 ∧ 4 ≤ 4) by omega), (laX.yes 3 (by decide) (by omega) cn32)⟩ (show ((4 : Int) + 1 - 4).toNat < ((4 : Int) + 1 - x2).toNat by omega)
                    ·
                      refine wi_iload_n (i := 2) (e := 3) (nx := 72) (r1 := 0) (r2 := 0) (r3 := 0) rfl rfl ?_
                      refine wi_istore_n (i := 1) (e := 3) (lo2 := [(1, vi 3), (0, .ref 236), (2, vi 3)]) (nx := 73) (r1 := 0) (r2 := 0) (r3 := 0) rfl rfl ?_
                      refine wr_iincL (i := 2) (n := 1) (v := 3) (4) ([(2, vi 4), (1, vi 3), (0, .ref 236)]) (nx := 76) (r1 := 0) (r2 := 0) (r3 := 0) rfl rfl (by decide) rfl ?_
                      refine wi_goto (nx := 79) (r1 := 4) (r2 := 0) (r3 := 0) rfl ?_
                      refine wp.lo (lo := [(0, .ref 236), (1, vi 3), (2, vi 4)]) ⟨rfl, rfl, rfl, trivial⟩ rfl ?_
                      have b30 := gi_b (lo := 0) (hi := 12) g 238 106 rfl
                      have b31 := gi_b (lo := 0) (hi := 999) g 238 3 rfl
                      have c33 : h 238 i14 = h 238 i14 := rfl
                      have cn32 : canL (h 238) 3 := ⟨(show (3 : Int) + 1 ≤ h 238 1 by omega), (show 1 ≤ h 238 101 by omega), (show h 238 67 ≤ 9998 by omega), (show ((1 ≤ h 238 (43 + (h 238 92).toNat) ∧ h 238 102 < h 238 7) ∨ (h 238 (43 + (h 238 92).toNat) ≤ 0 ∧ h 238 92 - h 238 106 ≤ h 238 3)) by rw [show 43 + (h 238 92).toNat = i14 by omega]; omega)⟩
                      exact I3 3 4 h ⟨rfl, (show (-1 ≤ 3 ∧ 3 ≤ 3) ∧ (0 ≤ 4 ∧ 4 ≤ 4) by omega), (laX.yes 3 (by decide) (by omega) cn32)⟩ (show ((4 : Int) + 1 - 4).toNat < ((4 : Int) + 1 - x2).toNat by omega)
                  ·
                    rw [q27]
                    refine wr_V (k0 := 236) (rest := [vi (h 238 92)]) (as := [.ref 236, vi 1, vi 0]) (nx := 68) (r1 := 258) (r2 := 2) (r3 := 11) rfl rfl rfl (of_decide_eq_true rfl) rfl rfl (by decide) rfl rfl (of_decide_eq_true rfl) (of_decide_eq_true rfl) ?_
                    refine wi_aload_n (i := 0) (x := 236) (nx := 1) (r1 := 0) (r2 := 0) (r3 := 0) rfl rfl ?_
                    refine wr_gr (k0 := 236) (x := 238) (nx := 4) (r1 := 11) (r2 := 13) (r3 := 0) rfl rfl (by decide) rfl ⟨rfl, rfl⟩ rfl ?_
                    refine wi_bipush (n := 74) (nx := 6) (r1 := 0) (r2 := 0) (r3 := 0) rfl (by decide) ?_
                    refine wi_bipush (n := 6) (nx := 8) (r1 := 0) (r2 := 0) (r3 := 0) rfl (by decide) ?_
                    refine wi_iload_n (i := 1) (e := 1) (nx := 9) (r1 := 0) (r2 := 0) (r3 := 0) rfl rfl ?_
                    refine wr_mulL (6) (nx := 10) (r1 := 0) (r2 := 0) (r3 := 0) rfl (by decide) ?_
                    refine wr_addL (80) (nx := 11) (r1 := 0) (r2 := 0) (r3 := 0) rfl (by decide) ?_
                    refine wi_iload_n (i := 2) (e := 0) (nx := 12) (r1 := 0) (r2 := 0) (r3 := 0) rfl rfl ?_
                    refine wr_addL (80) (nx := 13) (r1 := 0) (r2 := 0) (r3 := 0) rfl (by decide) ?_
                    have b28 := gi_b (lo := 0) (hi := 11) g 238 80 rfl
                    refine wr_ia (k0 := 238) (a := 80) (f := 80) (x := h 238 80) (nx := 14) (r1 := 0) (r2 := 0) (r3 := 0) rfl (by decide) rfl (by omega) (by omega) (by decide) rfl ?_
                    refine wi_ireturn (nx := 15) (r1 := 0) (r2 := 0) (r3 := 0) rfl rfl ?_
                    refine wk_i ?_
                    refine wi_icmp (cd := .ge) (nx := 71) (r1 := 73) (r2 := 0) (r3 := 0) rfl (by omega) (by omega) (fun (q29 : (h 238 80) ≤ (h 238 92)) => ?_) (fun (q29 : ¬ ((h 238 80) ≤ (h 238 92))) => ?_)
                    ·
                      refine wr_iincL (i := 2) (n := 1) (v := 3) (4) ([(2, vi 4), (0, .ref 236), (1, vi 1)]) (nx := 76) (r1 := 0) (r2 := 0) (r3 := 0) rfl rfl (by decide) rfl ?_
                      refine wi_goto (nx := 79) (r1 := 4) (r2 := 0) (r3 := 0) rfl ?_
                      refine wp.lo (lo := [(0, .ref 236), (1, vi 1), (2, vi 4)]) ⟨rfl, rfl, rfl, trivial⟩ rfl ?_
                      have b30 := gi_b (lo := 0) (hi := 12) g 238 106 rfl
                      have b31 := gi_b (lo := 0) (hi := 999) g 238 3 rfl
                      have c33 : h 238 i14 = h 238 i14 := rfl
                      have cn32 : canL (h 238) 3 := ⟨(show (3 : Int) + 1 ≤ h 238 1 by omega), (show 1 ≤ h 238 101 by omega), (show h 238 67 ≤ 9998 by omega), (show ((1 ≤ h 238 (43 + (h 238 92).toNat) ∧ h 238 102 < h 238 7) ∨ (h 238 (43 + (h 238 92).toNat) ≤ 0 ∧ h 238 92 - h 238 106 ≤ h 238 3)) by rw [show 43 + (h 238 92).toNat = i14 by omega]; omega)⟩
                      exact I3 1 4 h ⟨rfl, (show (-1 ≤ 1 ∧ 1 ≤ 3) ∧ (0 ≤ 4 ∧ 4 ≤ 4) by omega), (laX.yes 3 (by decide) (by omega) cn32)⟩ (show ((4 : Int) + 1 - 4).toNat < ((4 : Int) + 1 - x2).toNat by omega)
                    ·
                      refine wi_iload_n (i := 2) (e := 3) (nx := 72) (r1 := 0) (r2 := 0) (r3 := 0) rfl rfl ?_
                      refine wi_istore_n (i := 1) (e := 3) (lo2 := [(1, vi 3), (0, .ref 236), (2, vi 3)]) (nx := 73) (r1 := 0) (r2 := 0) (r3 := 0) rfl rfl ?_
                      refine wr_iincL (i := 2) (n := 1) (v := 3) (4) ([(2, vi 4), (1, vi 3), (0, .ref 236)]) (nx := 76) (r1 := 0) (r2 := 0) (r3 := 0) rfl rfl (by decide) rfl ?_
                      refine wi_goto (nx := 79) (r1 := 4) (r2 := 0) (r3 := 0) rfl ?_
                      refine wp.lo (lo := [(0, .ref 236), (1, vi 3), (2, vi 4)]) ⟨rfl, rfl, rfl, trivial⟩ rfl ?_
                      have b30 := gi_b (lo := 0) (hi := 12) g 238 106 rfl
                      have b31 := gi_b (lo := 0) (hi := 999) g 238 3 rfl
                      have c33 : h 238 i14 = h 238 i14 := rfl
                      have cn32 : canL (h 238) 3 := ⟨(show (3 : Int) + 1 ≤ h 238 1 by omega), (show 1 ≤ h 238 101 by omega), (show h 238 67 ≤ 9998 by omega), (show ((1 ≤ h 238 (43 + (h 238 92).toNat) ∧ h 238 102 < h 238 7) ∨ (h 238 (43 + (h 238 92).toNat) ≤ 0 ∧ h 238 92 - h 238 106 ≤ h 238 3)) by rw [show 43 + (h 238 92).toNat = i14 by omega]; omega)⟩
                      exact I3 3 4 h ⟨rfl, (show (-1 ≤ 3 ∧ 3 ≤ 3) ∧ (0 ≤ 4 ∧ 4 ≤ 4) by omega), (laX.yes 3 (by decide) (by omega) cn32)⟩ (show ((4 : Int) + 1 - 4).toNat < ((4 : Int) + 1 - x2).toNat by omega)
                  ·
                    rw [q27]
                    refine wr_V (k0 := 236) (rest := [vi (h 238 92)]) (as := [.ref 236, vi 2, vi 0]) (nx := 68) (r1 := 258) (r2 := 2) (r3 := 11) rfl rfl rfl (of_decide_eq_true rfl) rfl rfl (by decide) rfl rfl (of_decide_eq_true rfl) (of_decide_eq_true rfl) ?_
                    refine wi_aload_n (i := 0) (x := 236) (nx := 1) (r1 := 0) (r2 := 0) (r3 := 0) rfl rfl ?_
                    refine wr_gr (k0 := 236) (x := 238) (nx := 4) (r1 := 11) (r2 := 13) (r3 := 0) rfl rfl (by decide) rfl ⟨rfl, rfl⟩ rfl ?_
                    refine wi_bipush (n := 74) (nx := 6) (r1 := 0) (r2 := 0) (r3 := 0) rfl (by decide) ?_
                    refine wi_bipush (n := 6) (nx := 8) (r1 := 0) (r2 := 0) (r3 := 0) rfl (by decide) ?_
                    refine wi_iload_n (i := 1) (e := 2) (nx := 9) (r1 := 0) (r2 := 0) (r3 := 0) rfl rfl ?_
                    refine wr_mulL (12) (nx := 10) (r1 := 0) (r2 := 0) (r3 := 0) rfl (by decide) ?_
                    refine wr_addL (86) (nx := 11) (r1 := 0) (r2 := 0) (r3 := 0) rfl (by decide) ?_
                    refine wi_iload_n (i := 2) (e := 0) (nx := 12) (r1 := 0) (r2 := 0) (r3 := 0) rfl rfl ?_
                    refine wr_addL (86) (nx := 13) (r1 := 0) (r2 := 0) (r3 := 0) rfl (by decide) ?_
                    have b28 := gi_b (lo := 0) (hi := 11) g 238 86 rfl
                    refine wr_ia (k0 := 238) (a := 86) (f := 86) (x := h 238 86) (nx := 14) (r1 := 0) (r2 := 0) (r3 := 0) rfl (by decide) rfl (by omega) (by omega) (by decide) rfl ?_
                    refine wi_ireturn (nx := 15) (r1 := 0) (r2 := 0) (r3 := 0) rfl rfl ?_
                    refine wk_i ?_
                    refine wi_icmp (cd := .ge) (nx := 71) (r1 := 73) (r2 := 0) (r3 := 0) rfl (by omega) (by omega) (fun (q29 : (h 238 86) ≤ (h 238 92)) => ?_) (fun (q29 : ¬ ((h 238 86) ≤ (h 238 92))) => ?_)
                    ·
                      refine wr_iincL (i := 2) (n := 1) (v := 3) (4) ([(2, vi 4), (0, .ref 236), (1, vi 2)]) (nx := 76) (r1 := 0) (r2 := 0) (r3 := 0) rfl rfl (by decide) rfl ?_
                      refine wi_goto (nx := 79) (r1 := 4) (r2 := 0) (r3 := 0) rfl ?_
                      refine wp.lo (lo := [(0, .ref 236), (1, vi 2), (2, vi 4)]) ⟨rfl, rfl, rfl, trivial⟩ rfl ?_
                      have b30 := gi_b (lo := 0) (hi := 12) g 238 106 rfl
                      have b31 := gi_b (lo := 0) (hi := 999) g 238 3 rfl
                      have c33 : h 238 i14 = h 238 i14 := rfl
                      have cn32 : canL (h 238) 3 := ⟨(show (3 : Int) + 1 ≤ h 238 1 by omega), (show 1 ≤ h 238 101 by omega), (show h 238 67 ≤ 9998 by omega), (show ((1 ≤ h 238 (43 + (h 238 92).toNat) ∧ h 238 102 < h 238 7) ∨ (h 238 (43 + (h 238 92).toNat) ≤ 0 ∧ h 238 92 - h 238 106 ≤ h 238 3)) by rw [show 43 + (h 238 92).toNat = i14 by omega]; omega)⟩
                      exact I3 2 4 h ⟨rfl, (show (-1 ≤ 2 ∧ 2 ≤ 3) ∧ (0 ≤ 4 ∧ 4 ≤ 4) by omega), (laX.yes 3 (by decide) (by omega) cn32)⟩ (show ((4 : Int) + 1 - 4).toNat < ((4 : Int) + 1 - x2).toNat by omega)
                    ·
                      refine wi_iload_n (i := 2) (e := 3) (nx := 72) (r1 := 0) (r2 := 0) (r3 := 0) rfl rfl ?_
                      refine wi_istore_n (i := 1) (e := 3) (lo2 := [(1, vi 3), (0, .ref 236), (2, vi 3)]) (nx := 73) (r1 := 0) (r2 := 0) (r3 := 0) rfl rfl ?_
                      refine wr_iincL (i := 2) (n := 1) (v := 3) (4) ([(2, vi 4), (1, vi 3), (0, .ref 236)]) (nx := 76) (r1 := 0) (r2 := 0) (r3 := 0) rfl rfl (by decide) rfl ?_
                      refine wi_goto (nx := 79) (r1 := 4) (r2 := 0) (r3 := 0) rfl ?_
                      refine wp.lo (lo := [(0, .ref 236), (1, vi 3), (2, vi 4)]) ⟨rfl, rfl, rfl, trivial⟩ rfl ?_
                      have b30 := gi_b (lo := 0) (hi := 12) g 238 106 rfl
                      have b31 := gi_b (lo := 0) (hi := 999) g 238 3 rfl
                      have c33 : h 238 i14 = h 238 i14 := rfl
                      have cn32 : canL (h 238) 3 := ⟨(show (3 : Int) + 1 ≤ h 238 1 by omega), (show 1 ≤ h 238 101 by omega), (show h 238 67 ≤ 9998 by omega), (show ((1 ≤ h 238 (43 + (h 238 92).toNat) ∧ h 238 102 < h 238 7) ∨ (h 238 (43 + (h 238 92).toNat) ≤ 0 ∧ h 238 92 - h 238 106 ≤ h 238 3)) by rw [show 43 + (h 238 92).toNat = i14 by omega]; omega)⟩
                      exact I3 3 4 h ⟨rfl, (show (-1 ≤ 3 ∧ 3 ≤ 3) ∧ (0 ≤ 4 ∧ 4 ≤ 4) by omega), (laX.yes 3 (by decide) (by omega) cn32)⟩ (show ((4 : Int) + 1 - 4).toNat < ((4 : Int) + 1 - x2).toNat by omega)
                  ·
                    rw [q27]
                    refine wr_V (k0 := 236) (rest := [vi (h 238 92)]) (as := [.ref 236, vi 3, vi 0]) (nx := 68) (r1 := 258) (r2 := 2) (r3 := 11) rfl rfl rfl (of_decide_eq_true rfl) rfl rfl (by decide) rfl rfl (of_decide_eq_true rfl) (of_decide_eq_true rfl) ?_
                    refine wi_aload_n (i := 0) (x := 236) (nx := 1) (r1 := 0) (r2 := 0) (r3 := 0) rfl rfl ?_
                    refine wr_gr (k0 := 236) (x := 238) (nx := 4) (r1 := 11) (r2 := 13) (r3 := 0) rfl rfl (by decide) rfl ⟨rfl, rfl⟩ rfl ?_
                    refine wi_bipush (n := 74) (nx := 6) (r1 := 0) (r2 := 0) (r3 := 0) rfl (by decide) ?_
                    refine wi_bipush (n := 6) (nx := 8) (r1 := 0) (r2 := 0) (r3 := 0) rfl (by decide) ?_
                    refine wi_iload_n (i := 1) (e := 3) (nx := 9) (r1 := 0) (r2 := 0) (r3 := 0) rfl rfl ?_
                    refine wr_mulL (18) (nx := 10) (r1 := 0) (r2 := 0) (r3 := 0) rfl (by decide) ?_
                    refine wr_addL (92) (nx := 11) (r1 := 0) (r2 := 0) (r3 := 0) rfl (by decide) ?_
                    refine wi_iload_n (i := 2) (e := 0) (nx := 12) (r1 := 0) (r2 := 0) (r3 := 0) rfl rfl ?_
                    refine wr_addL (92) (nx := 13) (r1 := 0) (r2 := 0) (r3 := 0) rfl (by decide) ?_
                    refine wr_ia (k0 := 238) (a := 92) (f := 92) (x := h 238 92) (nx := 14) (r1 := 0) (r2 := 0) (r3 := 0) rfl (by decide) rfl (by omega) (by omega) (by decide) rfl ?_
                    refine wi_ireturn (nx := 15) (r1 := 0) (r2 := 0) (r3 := 0) rfl rfl ?_
                    refine wk_i ?_
                    refine wi_icmp (cd := .ge) (nx := 71) (r1 := 73) (r2 := 0) (r3 := 0) rfl (by omega) (by omega) (fun (q28 : (h 238 92) ≤ (h 238 92)) => ?_) (fun (q28 : ¬ ((h 238 92) ≤ (h 238 92))) => by exfalso; omega)
                    refine wr_iincL (i := 2) (n := 1) (v := 3) (4) ([(2, vi 4), (0, .ref 236), (1, vi 3)]) (nx := 76) (r1 := 0) (r2 := 0) (r3 := 0) rfl rfl (by decide) rfl ?_
                    refine wi_goto (nx := 79) (r1 := 4) (r2 := 0) (r3 := 0) rfl ?_
                    refine wp.lo (lo := [(0, .ref 236), (1, vi 3), (2, vi 4)]) ⟨rfl, rfl, rfl, trivial⟩ rfl ?_
                    have b29 := gi_b (lo := 0) (hi := 12) g 238 106 rfl
                    have b30 := gi_b (lo := 0) (hi := 999) g 238 3 rfl
                    have c32 : h 238 i14 = h 238 i14 := rfl
                    have cn31 : canL (h 238) 3 := ⟨(show (3 : Int) + 1 ≤ h 238 1 by omega), (show 1 ≤ h 238 101 by omega), (show h 238 67 ≤ 9998 by omega), (show ((1 ≤ h 238 (43 + (h 238 92).toNat) ∧ h 238 102 < h 238 7) ∨ (h 238 (43 + (h 238 92).toNat) ≤ 0 ∧ h 238 92 - h 238 106 ≤ h 238 3)) by rw [show 43 + (h 238 92).toNat = i14 by omega]; omega)⟩
                    exact I3 3 4 h ⟨rfl, (show (-1 ≤ 3 ∧ 3 ≤ 3) ∧ (0 ≤ 4 ∧ 4 ≤ 4) by omega), (laX.yes 3 (by decide) (by omega) cn31)⟩ (show ((4 : Int) + 1 - 4).toNat < ((4 : Int) + 1 - x2).toNat by omega)
              ·
                refine wi_iload_n (i := 2) (e := 3) (nx := 50) (r1 := 0) (r2 := 0) (r3 := 0) rfl rfl ?_
                refine wi_ireturn (nx := 51) (r1 := 0) (r2 := 0) (r3 := 0) rfl rfl ?_
                have b26 := gi_b (lo := 0) (hi := 12) g 238 106 rfl
                have b27 := gi_b (lo := 0) (hi := 999) g 238 3 rfl
                have c29 : h 238 i14 = h 238 i14 := rfl
                have cn28 : canL (h 238) 3 := ⟨(show (3 : Int) + 1 ≤ h 238 1 by omega), (show 1 ≤ h 238 101 by omega), (show h 238 67 ≤ 9998 by omega), (show ((1 ≤ h 238 (43 + (h 238 92).toNat) ∧ h 238 102 < h 238 7) ∨ (h 238 (43 + (h 238 92).toNat) ≤ 0 ∧ h 238 92 - h 238 106 ≤ h 238 3)) by rw [show 43 + (h 238 92).toNat = i14 by omega]; omega)⟩
                exact k 3 (by omega) (laX.yes 3 (by decide) (by omega) cn28)
        ·
          refine wi_iconst (n := 0) (nx := 26) (r1 := 0) (r2 := 0) (r3 := 0) rfl ?_
          refine wi_zreturn (nx := 27) (r1 := 0) (r2 := 0) (r3 := 0) rfl rfl (by omega) ?_
          refine wk_i ?_
          refine wi_if (cd := .ne) (nx := 22) (r1 := 25) (r2 := 0) (r3 := 0) rfl (by omega) (fun (q12 : 0 ≠ 0) => by exfalso; omega) (fun (q12 : ¬ (0 ≠ 0)) => ?_)
          refine wi_goto (nx := 25) (r1 := 73) (r2 := 0) (r3 := 0) rfl ?_
          refine wr_iincL (i := 2) (n := 1) (v := 3) (4) ([(2, vi 4), (0, .ref 236), (1, vi x1)]) (nx := 76) (r1 := 0) (r2 := 0) (r3 := 0) rfl rfl (by decide) rfl ?_
          refine wi_goto (nx := 79) (r1 := 4) (r2 := 0) (r3 := 0) rfl ?_
          refine wp.lo (lo := [(0, .ref 236), (1, vi x1), (2, vi 4)]) ⟨rfl, rfl, rfl, trivial⟩ rfl ?_
          have b13 := gi_b (lo := 0) (hi := 3) g 238 102 rfl
          have b14 := gi_b (lo := 0) (hi := 3) g 238 7 rfl
          have b15 := gi_b (lo := 0) (hi := 11) g 238 92 rfl
          have b16 := gi_b (lo := 0) (hi := 12) g 238 106 rfl
          have b17 := gi_b (lo := 0) (hi := 999) g 238 3 rfl
          have cn18 : ¬ canL (h 238) 3 := fun c => by
            have c1 : (3 : Int) + 1 ≤ h 238 1 := c.1
            have c2 : 1 ≤ h 238 101 := c.2.1
            have c3 : h 238 67 ≤ 9998 := c.2.2.1
            have c4 : ((1 ≤ h 238 (43 + (h 238 92).toNat) ∧ h 238 102 < h 238 7) ∨ (h 238 (43 + (h 238 92).toNat) ≤ 0 ∧ h 238 92 - h 238 106 ≤ h 238 3)) := c.2.2.2
            clear c4; omega
          exact I3 x1 4 h ⟨rfl, (show (-1 ≤ x1 ∧ x1 ≤ 3) ∧ (0 ≤ 4 ∧ 4 ≤ 4) by omega), (laX.no X3_0 (by omega) 3 (by omega) cn18)⟩ (show ((4 : Int) + 1 - 4).toNat < ((4 : Int) + 1 - x2).toNat by omega)
