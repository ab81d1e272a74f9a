-- method 290: Model.chosenFor(I)I
set_option maxHeartbeats 100000000 in
theorem ct_290_236 {L : Nat} {xs : Nat → Int32} {d b c : Nat} {h : hp} {cr : Nat → Nat → Option Nat} {Q : hp_Q} (hcr : CR cr)  (g : GI h) (a0 : Int) (q0_ : 0 ≤ a0 ∧ a0 ≤ 11)  (k : ∀ (z0 : Int), (-1 ≤ z0 ∧ z0 ≤ 3) → (laP (roomL (h 238)) z0) → Q (.inl (some (vi z0))) (hp_w h cr) b c) : wp (md_xa (L, xs)) (d + 1) 290 (0, [(0, .ref 236), (1, vi a0)], [], hp_w h cr, b, c) Q := by
  have F0 : FR [] h h := FR.refl
  refine wi_iconst (n := (-1)) (nx := 1) (r1 := 0) (r2 := 0) (r3 := 0) rfl ?_
  refine wi_istore_n (i := 2) (e := -1) (lo2 := [(2, vi (-1)), (0, .ref 236), (1, vi a0)]) (nx := 2) (r1 := 0) (r2 := 0) (r3 := 0) rfl rfl ?_
  refine wi_iconst (n := 0) (nx := 3) (r1 := 0) (r2 := 0) (r3 := 0) rfl ?_
  refine wi_istore_n (i := 3) (e := 0) (lo2 := [(3, vi 0), (2, vi (-1)), (0, .ref 236), (1, vi a0)]) (nx := 4) (r1 := 0) (r2 := 0) (r3 := 0) rfl rfl ?_
  refine wp.lo (lo := [(0, .ref 236), (1, vi a0), (2, vi (-1)), (3, vi 0)]) ⟨rfl, rfl, rfl, rfl, trivial⟩ rfl ?_
  refine wl_2 (fun x1 x2 h3 => h = h3 ∧ ((-1 ≤ x1 ∧ x1 ≤ 3) ∧ (0 ≤ x2 ∧ x2 ≤ 4)) ∧ (laX (roomL (h 238)) x1 x2)) (fun x1 x2 h3 => ((4 : Int) + 1 - x2).toNat) (fun x1 x2 h3 => (4, [(0, .ref 236), (1, vi a0), (2, vi x1), (3, vi x2)], [], hp_w h3 cr, b, c)) ?_ (-1) 0 h ⟨rfl, (show (-1 ≤ (-1) ∧ (-1) ≤ 3) ∧ (0 ≤ 0 ∧ 0 ≤ 4) by omega), laX.start⟩
  intro x1 x2 h3 ⟨e3, f3, X3_0⟩ I3
  subst e3
  refine wi_iload_n (i := 3) (e := x2) (nx := 5) (r1 := 0) (r2 := 0) (r3 := 0) rfl rfl ?_
  refine wi_aload_n (i := 0) (x := 236) (nx := 6) (r1 := 0) (r2 := 0) (r3 := 0) rfl rfl ?_
  refine wr_gr (k0 := 236) (x := 238) (nx := 9) (r1 := 11) (r2 := 13) (r3 := 0) rfl rfl (by decide) rfl ⟨rfl, rfl⟩ rfl ?_
  refine wi_iconst (n := 1) (nx := 10) (r1 := 0) (r2 := 0) (r3 := 0) rfl ?_
  have b5 := gi_b (lo := 0) (hi := 4) g 238 1 rfl
  refine wr_ia (k0 := 238) (a := 1) (f := 1) (x := h 238 1) (nx := 11) (r1 := 0) (r2 := 0) (r3 := 0) rfl (by decide) rfl (by omega) (by omega) (by decide) rfl ?_
  refine wi_icmp (cd := .ge) (nx := 14) (r1 := 99) (r2 := 0) (r3 := 0) rfl (by omega) (by omega) (fun (q6 : (h 238 1) ≤ x2) => ?_) (fun (q6 : ¬ ((h 238 1) ≤ x2)) => ?_)
  ·
    refine wi_iload_n (i := 2) (e := x1) (nx := 100) (r1 := 0) (r2 := 0) (r3 := 0) rfl rfl ?_
    refine wi_ireturn (nx := 101) (r1 := 0) (r2 := 0) (r3 := 0) rfl rfl ?_
    exact k x1 (by omega) (laX.done X3_0 (fun v hv c => by have c1 := c.1; omega))
  ·
    refine wi_aload_n (i := 0) (x := 236) (nx := 15) (r1 := 0) (r2 := 0) (r3 := 0) rfl rfl ?_
    refine wi_iload_n (i := 3) (e := x2) (nx := 16) (r1 := 0) (r2 := 0) (r3 := 0) rfl rfl ?_
    rcases (show x2 = 0 ∨ x2 = 1 ∨ x2 = 2 ∨ x2 = 3 by omega) with q7 | q7 | q7 | q7
    ·
      rw [q7]
      refine wr_V (k0 := 236) (rest := []) (as := [.ref 236, vi 0]) (nx := 19) (r1 := 277) (r2 := 1) (r3 := 11) rfl rfl rfl (of_decide_eq_true rfl) rfl rfl (by decide) rfl rfl (of_decide_eq_true rfl) (of_decide_eq_true rfl) ?_
      refine wi_aload_n (i := 0) (x := 236) (nx := 1) (r1 := 0) (r2 := 0) (r3 := 0) rfl rfl ?_
      refine wr_gr (k0 := 236) (x := 238) (nx := 4) (r1 := 11) (r2 := 13) (r3 := 0) rfl rfl (by decide) rfl ⟨rfl, rfl⟩ rfl ?_
      refine wi_bipush (n := 98) (nx := 6) (r1 := 0) (r2 := 0) (r3 := 0) rfl (by decide) ?_
      refine wi_iload_n (i := 1) (e := 0) (nx := 7) (r1 := 0) (r2 := 0) (r3 := 0) rfl rfl ?_
      refine wr_addL (98) (nx := 8) (r1 := 0) (r2 := 0) (r3 := 0) rfl (by decide) ?_
      have b8 := gi_b (lo := 0) (hi := 6) g 238 98 rfl
      refine wr_ia (k0 := 238) (a := 98) (f := 98) (x := h 238 98) (nx := 9) (r1 := 0) (r2 := 0) (r3 := 0) rfl (by decide) rfl (by omega) (by omega) (by decide) rfl ?_
      refine wi_aload_n (i := 0) (x := 236) (nx := 10) (r1 := 0) (r2 := 0) (r3 := 0) rfl rfl ?_
      refine wr_gr (k0 := 236) (x := 238) (nx := 13) (r1 := 11) (r2 := 13) (r3 := 0) rfl rfl (by decide) rfl ⟨rfl, rfl⟩ rfl ?_
      refine wi_bipush (n := 15) (nx := 15) (r1 := 0) (r2 := 0) (r3 := 0) rfl (by decide) ?_
      refine wi_iload_n (i := 1) (e := 0) (nx := 16) (r1 := 0) (r2 := 0) (r3 := 0) rfl rfl ?_
      refine wr_addL (15) (nx := 17) (r1 := 0) (r2 := 0) (r3 := 0) rfl (by decide) ?_
      have b9 := gi_b (lo := 0) (hi := 6) g 238 15 rfl
      refine wr_ia (k0 := 238) (a := 15) (f := 15) (x := h 238 15) (nx := 18) (r1 := 0) (r2 := 0) (r3 := 0) rfl (by decide) rfl (by omega) (by omega) (by decide) rfl ?_
      refine wi_icmp (cd := .ge) (nx := 21) (r1 := 25) (r2 := 0) (r3 := 0) rfl (by omega) (by omega) (fun (q10 : (h 238 15) ≤ (h 238 98)) => ?_) (fun (q10 : ¬ ((h 238 15) ≤ (h 238 98))) => ?_)
      ·
        refine wi_iconst (n := 0) (nx := 26) (r1 := 0) (r2 := 0) (r3 := 0) rfl ?_
        refine wi_zreturn (nx := 27) (r1 := 0) (r2 := 0) (r3 := 0) rfl rfl (by omega) ?_
        refine wk_i ?_
        refine wi_if (cd := .ne) (nx := 22) (r1 := 25) (r2 := 0) (r3 := 0) rfl (by omega) (fun (q11 : 0 ≠ 0) => by exfalso; omega) (fun (q11 : ¬ (0 ≠ 0)) => ?_)
        refine wi_goto (nx := 25) (r1 := 93) (r2 := 0) (r3 := 0) rfl ?_
        refine wr_iincL (i := 3) (n := 1) (v := 0) (1) ([(3, vi 1), (0, .ref 236), (1, vi a0), (2, vi x1)]) (nx := 96) (r1 := 0) (r2 := 0) (r3 := 0) rfl rfl (by decide) rfl ?_
        refine wi_goto (nx := 99) (r1 := 4) (r2 := 0) (r3 := 0) rfl ?_
        refine wp.lo (lo := [(0, .ref 236), (1, vi a0), (2, vi x1), (3, vi 1)]) ⟨rfl, rfl, rfl, rfl, trivial⟩ rfl ?_
        have cn12 : ¬ roomL (h 238) 0 := fun c => by
          have c2 : h 238 98 < h 238 15 := c.2
          omega
        exact I3 x1 1 h ⟨rfl, (show (-1 ≤ x1 ∧ x1 ≤ 3) ∧ (0 ≤ 1 ∧ 1 ≤ 4) by omega), (laX.no X3_0 (by omega) 0 (by omega) cn12)⟩ (show ((4 : Int) + 1 - 1).toNat < ((4 : Int) + 1 - x2).toNat by omega)
      ·
        refine wi_iconst (n := 1) (nx := 22) (r1 := 0) (r2 := 0) (r3 := 0) rfl ?_
        refine wi_goto (nx := 25) (r1 := 26) (r2 := 0) (r3 := 0) rfl ?_
        refine wi_zreturn (nx := 27) (r1 := 0) (r2 := 0) (r3 := 0) rfl rfl (by omega) ?_
        refine wk_i ?_
        refine wi_if (cd := .ne) (nx := 22) (r1 := 25) (r2 := 0) (r3 := 0) rfl (by omega) (fun (q11 : 1 ≠ 0) => ?_) (fun (q11 : ¬ (1 ≠ 0)) => by exfalso; omega)
        refine wi_aload_n (i := 0) (x := 236) (nx := 26) (r1 := 0) (r2 := 0) (r3 := 0) rfl rfl ?_
        refine wr_gr (k0 := 236) (x := 238) (nx := 29) (r1 := 11) (r2 := 13) (r3 := 0) rfl rfl (by decide) rfl ⟨rfl, rfl⟩ rfl ?_
        refine wi_bipush (n := 98) (nx := 31) (r1 := 0) (r2 := 0) (r3 := 0) rfl (by decide) ?_
        refine wi_iload_n (i := 3) (e := 0) (nx := 32) (r1 := 0) (r2 := 0) (r3 := 0) rfl rfl ?_
        refine wr_addL (98) (nx := 33) (r1 := 0) (r2 := 0) (r3 := 0) rfl (by decide) ?_
        refine wr_ia (k0 := 238) (a := 98) (f := 98) (x := h 238 98) (nx := 34) (r1 := 0) (r2 := 0) (r3 := 0) rfl (by decide) rfl (by omega) (by omega) (by decide) rfl ?_
        refine wi_istore (i := 4) (e := h 238 98) (lo2 := [(4, vi (h 238 98)), (0, .ref 236), (1, vi a0), (2, vi x1), (3, vi 0)]) (nx := 36) (r1 := 0) (r2 := 0) (r3 := 0) rfl rfl ?_
        refine wi_iload (i := 4) (e := h 238 98) (nx := 38) (r1 := 0) (r2 := 0) (r3 := 0) rfl rfl ?_
        refine wi_if (cd := .le) (nx := 41) (r1 := 72) (r2 := 0) (r3 := 0) rfl (by omega) (fun (q12 : (h 238 98) ≤ 0) => ?_) (fun (q12 : ¬ ((h 238 98) ≤ 0)) => ?_)
        ·
          refine wi_iload_n (i := 2) (e := x1) (nx := 73) (r1 := 0) (r2 := 0) (r3 := 0) rfl rfl ?_
          refine wi_iconst (n := (-1)) (nx := 74) (r1 := 0) (r2 := 0) (r3 := 0) rfl ?_
          refine wi_icmp (cd := .eq) (nx := 77) (r1 := 91) (r2 := 0) (r3 := 0) rfl (by omega) (by omega) (fun (q13 : x1 = (-1)) => ?_) (fun (q13 : ¬ (x1 = (-1))) => ?_)
          ·
            refine wi_iload_n (i := 3) (e := 0) (nx := 92) (r1 := 0) (r2 := 0) (r3 := 0) rfl rfl ?_
            refine wi_istore_n (i := 2) (e := 0) (lo2 := [(2, vi 0), (4, vi (h 238 98)), (0, .ref 236), (1, vi a0), (3, vi 0)]) (nx := 93) (r1 := 0) (r2 := 0) (r3 := 0) rfl rfl ?_
            refine wr_iincL (i := 3) (n := 1) (v := 0) (1) ([(3, vi 1), (2, vi 0), (4, vi (h 238 98)), (0, .ref 236), (1, vi a0)]) (nx := 96) (r1 := 0) (r2 := 0) (r3 := 0) rfl rfl (by decide) rfl ?_
            refine wi_goto (nx := 99) (r1 := 4) (r2 := 0) (r3 := 0) rfl ?_
            refine wp.lo (lo := [(0, .ref 236), (1, vi a0), (2, vi 0), (3, vi 1)]) ⟨rfl, rfl, rfl, rfl, trivial⟩ rfl ?_
            have cn14 : roomL (h 238) 0 := ⟨(show (0 : Int) + 1 ≤ h 238 1 by omega), (show h 238 98 < h 238 15 by omega)⟩
            exact I3 0 1 h ⟨rfl, (show (-1 ≤ 0 ∧ 0 ≤ 3) ∧ (0 ≤ 1 ∧ 1 ≤ 4) by omega), (laX.yes 0 (by decide) (by omega) cn14)⟩ (show ((4 : Int) + 1 - 1).toNat < ((4 : Int) + 1 - x2).toNat by omega)
          ·
            refine wi_iload (i := 4) (e := h 238 98) (nx := 79) (r1 := 0) (r2 := 0) (r3 := 0) rfl rfl ?_
            refine wi_aload_n (i := 0) (x := 236) (nx := 80) (r1 := 0) (r2 := 0) (r3 := 0) rfl rfl ?_
            refine wr_gr (k0 := 236) (x := 238) (nx := 83) (r1 := 11) (r2 := 13) (r3 := 0) rfl rfl (by decide) rfl ⟨rfl, rfl⟩ rfl ?_
            refine wi_bipush (n := 98) (nx := 85) (r1 := 0) (r2 := 0) (r3 := 0) rfl (by decide) ?_
            refine wi_iload_n (i := 2) (e := x1) (nx := 86) (r1 := 0) (r2 := 0) (r3 := 0) rfl rfl ?_
            refine wr_add (nx := 87) (r1 := 0) (r2 := 0) (r3 := 0) rfl (fun e14 (fe14 : e14 = 98 + x1) => ?_)
            obtain ⟨i15, ei15⟩ : ∃ q : Nat, e14 = (q : Int) := ⟨(e14).toNat, by omega⟩
            have b16 := gi_b (lo := 0) (hi := 6) g 238 i15 (gi_rg 98 4 (fun _ => rfl) (by decide +kernel) (by omega))
            refine wr_ia (k0 := 238) (a := e14) (f := i15) (x := h 238 i15) (nx := 88) (r1 := 0) (r2 := 0) (r3 := 0) rfl (by decide) rfl (by omega) (by omega) (by decide) rfl ?_
            refine wi_icmp (cd := .ge) (nx := 91) (r1 := 93) (r2 := 0) (r3 := 0) rfl (by omega) (by omega) (fun (q17 : (h 238 i15) ≤ (h 238 98)) => ?_) (fun (q17 : ¬ ((h 238 i15) ≤ (h 238 98))) => ?_)
            ·
              refine wr_iincL (i := 3) (n := 1) (v := 0) (1) ([(3, vi 1), (4, vi (h 238 98)), (0, .ref 236), (1, vi a0), (2, vi x1)]) (nx := 96) (r1 := 0) (r2 := 0) (r3 := 0) rfl rfl (by decide) rfl ?_
              refine wi_goto (nx := 99) (r1 := 4) (r2 := 0) (r3 := 0) rfl ?_
              refine wp.lo (lo := [(0, .ref 236), (1, vi a0), (2, vi x1), (3, vi 1)]) ⟨rfl, rfl, rfl, rfl, trivial⟩ rfl ?_
              exact I3 x1 1 h ⟨rfl, (show (-1 ≤ x1 ∧ x1 ≤ 3) ∧ (0 ≤ 1 ∧ 1 ≤ 4) by omega), (laX.keep X3_0 (by omega))⟩ (show ((4 : Int) + 1 - 1).toNat < ((4 : Int) + 1 - x2).toNat by omega)
            ·
              refine wi_iload_n (i := 3) (e := 0) (nx := 92) (r1 := 0) (r2 := 0) (r3 := 0) rfl rfl ?_
              refine wi_istore_n (i := 2) (e := 0) (lo2 := [(2, vi 0), (4, vi (h 238 98)), (0, .ref 236), (1, vi a0), (3, vi 0)]) (nx := 93) (r1 := 0) (r2 := 0) (r3 := 0) rfl rfl ?_
              refine wr_iincL (i := 3) (n := 1) (v := 0) (1) ([(3, vi 1), (2, vi 0), (4, vi (h 238 98)), (0, .ref 236), (1, vi a0)]) (nx := 96) (r1 := 0) (r2 := 0) (r3 := 0) rfl rfl (by decide) rfl ?_
              refine wi_goto (nx := 99) (r1 := 4) (r2 := 0) (r3 := 0) rfl ?_
              refine wp.lo (lo := [(0, .ref 236), (1, vi a0), (2, vi 0), (3, vi 1)]) ⟨rfl, rfl, rfl, rfl, trivial⟩ rfl ?_
              have cn18 : roomL (h 238) 0 := ⟨(show (0 : Int) + 1 ≤ h 238 1 by omega), (show h 238 98 < h 238 15 by omega)⟩
              exact I3 0 1 h ⟨rfl, (show (-1 ≤ 0 ∧ 0 ≤ 3) ∧ (0 ≤ 1 ∧ 1 ≤ 4) by omega), (laX.yes 0 (by decide) (by omega) cn18)⟩ (show ((4 : Int) + 1 - 1).toNat < ((4 : Int) + 1 - x2).toNat by omega)
        ·
          refine wi_aload_n (i := 0) (x := 236) (nx := 42) (r1 := 0) (r2 := 0) (r3 := 0) rfl rfl ?_
          refine wr_gr (k0 := 236) (x := 238) (nx := 45) (r1 := 11) (r2 := 13) (r3 := 0) rfl rfl (by decide) rfl ⟨rfl, rfl⟩ rfl ?_
          refine wi_bipush (n := 31) (nx := 47) (r1 := 0) (r2 := 0) (r3 := 0) rfl (by decide) ?_
          refine wi_aload_n (i := 0) (x := 236) (nx := 48) (r1 := 0) (r2 := 0) (r3 := 0) rfl rfl ?_
          refine wi_iload_n (i := 3) (e := 0) (nx := 49) (r1 := 0) (r2 := 0) (r3 := 0) rfl rfl ?_
          refine wi_iload (i := 4) (e := h 238 98) (nx := 51) (r1 := 0) (r2 := 0) (r3 := 0) rfl rfl ?_
          refine wi_iconst (n := 1) (nx := 52) (r1 := 0) (r2 := 0) (r3 := 0) rfl ?_
          refine wr_sub (nx := 53) (r1 := 0) (r2 := 0) (r3 := 0) rfl (fun e13 (fe13 : e13 = (h 238 98) - 1) => ?_)
          refine wr_V (k0 := 236) (rest := [vi 31, .ref 238]) (as := [.ref 236, vi 0, vi e13]) (nx := 56) (r1 := 258) (r2 := 2) (r3 := 11) rfl rfl rfl (of_decide_eq_true rfl) rfl rfl (by decide) rfl rfl (of_decide_eq_true rfl) (of_decide_eq_true rfl) ?_
          refine wi_aload_n (i := 0) (x := 236) (nx := 1) (r1 := 0) (r2 := 0) (r3 := 0) rfl rfl ?_
          refine wr_gr (k0 := 236) (x := 238) (nx := 4) (r1 := 11) (r2 := 13) (r3 := 0) rfl rfl (by decide) rfl ⟨rfl, rfl⟩ rfl ?_
          refine wi_bipush (n := 74) (nx := 6) (r1 := 0) (r2 := 0) (r3 := 0) rfl (by decide) ?_
          refine wi_bipush (n := 6) (nx := 8) (r1 := 0) (r2 := 0) (r3 := 0) rfl (by decide) ?_
          refine wi_iload_n (i := 1) (e := 0) (nx := 9) (r1 := 0) (r2 := 0) (r3 := 0) rfl rfl ?_
          refine wr_mulL (0) (nx := 10) (r1 := 0) (r2 := 0) (r3 := 0) rfl (by decide) ?_
          refine wr_addL (74) (nx := 11) (r1 := 0) (r2 := 0) (r3 := 0) rfl (by decide) ?_
          refine wi_iload_n (i := 2) (e := e13) (nx := 12) (r1 := 0) (r2 := 0) (r3 := 0) rfl rfl ?_
          refine wr_add (nx := 13) (r1 := 0) (r2 := 0) (r3 := 0) rfl (fun e14 (fe14 : e14 = 74 + e13) => ?_)
          obtain ⟨i15, ei15⟩ : ∃ q : Nat, e14 = (q : Int) := ⟨(e14).toNat, by omega⟩
          have b16 := gi_b (lo := 0) (hi := 11) g 238 i15 (gi_rg 74 5 (fun _ => rfl) (by decide +kernel) (by omega))
          refine wr_ia (k0 := 238) (a := e14) (f := i15) (x := h 238 i15) (nx := 14) (r1 := 0) (r2 := 0) (r3 := 0) rfl (by decide) rfl (by omega) (by omega) (by decide) rfl ?_
          refine wi_ireturn (nx := 15) (r1 := 0) (r2 := 0) (r3 := 0) rfl rfl ?_
          refine wk_i ?_
          refine wr_add (nx := 57) (r1 := 0) (r2 := 0) (r3 := 0) rfl (fun e17 (fe17 : e17 = 31 + (h 238 i15)) => ?_)
          obtain ⟨i18, ei18⟩ : ∃ q : Nat, e17 = (q : Int) := ⟨(e17).toNat, by omega⟩
          have b19 := gi_b (lo := 0) (hi := 4) g 238 i18 (gi_rg 31 12 (fun _ => rfl) (by decide +kernel) (by omega))
          refine wr_ia (k0 := 238) (a := e17) (f := i18) (x := h 238 i18) (nx := 58) (r1 := 0) (r2 := 0) (r3 := 0) rfl (by decide) rfl (by omega) (by omega) (by decide) rfl ?_
          refine wi_aload_n (i := 0) (x := 236) (nx := 59) (r1 := 0) (r2 := 0) (r3 := 0) rfl rfl ?_
          refine wr_gr (k0 := 236) (x := 238) (nx := 62) (r1 := 11) (r2 := 13) (r3 := 0) rfl rfl (by decide) rfl ⟨rfl, rfl⟩ rfl ?_
          refine wi_bipush (n := 31) (nx := 64) (r1 := 0) (r2 := 0) (r3 := 0) rfl (by decide) ?_
          refine wi_iload_n (i := 1) (e := a0) (nx := 65) (r1 := 0) (r2 := 0) (r3 := 0) rfl rfl ?_
          refine wr_add (nx := 66) (r1 := 0) (r2 := 0) (r3 := 0) rfl (fun e20 (fe20 : e20 = 31 + a0) => ?_)
          obtain ⟨i21, ei21⟩ : ∃ q : Nat, e20 = (q : Int) := ⟨(e20).toNat, by omega⟩
          have b22 := gi_b (lo := 0) (hi := 4) g 238 i21 (gi_rg 31 12 (fun _ => rfl) (by decide +kernel) (by omega))
          refine wr_ia (k0 := 238) (a := e20) (f := i21) (x := h 238 i21) (nx := 67) (r1 := 0) (r2 := 0) (r3 := 0) rfl (by decide) rfl (by omega) (by omega) (by decide) rfl ?_
          refine wi_icmp (cd := .ne) (nx := 70) (r1 := 72) (r2 := 0) (r3 := 0) rfl (by omega) (by omega) (fun (q23 : (h 238 i18) ≠ (h 238 i21)) => ?_) (fun (q23 : ¬ ((h 238 i18) ≠ (h 238 i21))) => ?_)
          ·
            refine wi_iload_n (i := 2) (e := x1) (nx := 73) (r1 := 0) (r2 := 0) (r3 := 0) rfl rfl ?_
            refine wi_iconst (n := (-1)) (nx := 74) (r1 := 0) (r2 := 0) (r3 := 0) rfl ?_
            refine wi_icmp (cd := .eq) (nx := 77) (r1 := 91) (r2 := 0) (r3 := 0) rfl (by omega) (by omega) (fun (q24 : x1 = (-1)) => ?_) (fun (q24 : ¬ (x1 = (-1))) => ?_)
            ·
              refine wi_iload_n (i := 3) (e := 0) (nx := 92) (r1 := 0) (r2 := 0) (r3 := 0) rfl rfl ?_
              refine wi_istore_n (i := 2) (e := 0) (lo2 := [(2, vi 0), (4, vi (h 238 98)), (0, .ref 236), (1, vi a0), (3, vi 0)]) (nx := 93) (r1 := 0) (r2 := 0) (r3 := 0) rfl rfl ?_
              refine wr_iincL (i := 3) (n := 1) (v := 0) (1) ([(3, vi 1), (2, vi 0), (4, vi (h 238 98)), (0, .ref 236), (1, vi a0)]) (nx := 96) (r1 := 0) (r2 := 0) (r3 := 0) rfl rfl (by decide) rfl ?_
              refine wi_goto (nx := 99) (r1 := 4) (r2 := 0) (r3 := 0) rfl ?_
              refine wp.lo (lo := [(0, .ref 236), (1, vi a0), (2, vi 0), (3, vi 1)]) ⟨rfl, rfl, rfl, rfl, trivial⟩ rfl ?_
              have cn25 : roomL (h 238) 0 := ⟨(show (0 : Int) + 1 ≤ h 238 1 by omega), (show h 238 98 < h 238 15 by omega)⟩
              exact I3 0 1 h ⟨rfl, (show (-1 ≤ 0 ∧ 0 ≤ 3) ∧ (0 ≤ 1 ∧ 1 ≤ 4) by omega), (laX.yes 0 (by decide) (by omega) cn25)⟩ (show ((4 : Int) + 1 - 1).toNat < ((4 : Int) + 1 - x2).toNat by omega)
            ·
              refine wi_iload (i := 4) (e := h 238 98) (nx := 79) (r1 := 0) (r2 := 0) (r3 := 0) rfl rfl ?_
              refine wi_aload_n (i := 0) (x := 236) (nx := 80) (r1 := 0) (r2 := 0) (r3 := 0) rfl rfl ?_
              refine wr_gr (k0 := 236) (x := 238) (nx := 83) (r1 := 11) (r2 := 13) (r3 := 0) rfl rfl (by decide) rfl ⟨rfl, rfl⟩ rfl ?_
              refine wi_bipush (n := 98) (nx := 85) (r1 := 0) (r2 := 0) (r3 := 0) rfl (by decide) ?_
              refine wi_iload_n (i := 2) (e := x1) (nx := 86) (r1 := 0) (r2 := 0) (r3 := 0) rfl rfl ?_
              refine wr_add (nx := 87) (r1 := 0) (r2 := 0) (r3 := 0) rfl (fun e25 (fe25 : e25 = 98 + x1) => ?_)
              obtain ⟨i26, ei26⟩ : ∃ q : Nat, e25 = (q : Int) := ⟨(e25).toNat, by omega⟩
              have b27 := gi_b (lo := 0) (hi := 6) g 238 i26 (gi_rg 98 4 (fun _ => rfl) (by decide +kernel) (by omega))
              refine wr_ia (k0 := 238) (a := e25) (f := i26) (x := h 238 i26) (nx := 88) (r1 := 0) (r2 := 0) (r3 := 0) rfl (by decide) rfl (by omega) (by omega) (by decide) rfl ?_
              refine wi_icmp (cd := .ge) (nx := 91) (r1 := 93) (r2 := 0) (r3 := 0) rfl (by omega) (by omega) (fun (q28 : (h 238 i26) ≤ (h 238 98)) => ?_) (fun (q28 : ¬ ((h 238 i26) ≤ (h 238 98))) => ?_)
              ·
                refine wr_iincL (i := 3) (n := 1) (v := 0) (1) ([(3, vi 1), (4, vi (h 238 98)), (0, .ref 236), (1, vi a0), (2, vi x1)]) (nx := 96) (r1 := 0) (r2 := 0) (r3 := 0) rfl rfl (by decide) rfl ?_
                refine wi_goto (nx := 99) (r1 := 4) (r2 := 0) (r3 := 0) rfl ?_
                refine wp.lo (lo := [(0, .ref 236), (1, vi a0), (2, vi x1), (3, vi 1)]) ⟨rfl, rfl, rfl, rfl, trivial⟩ rfl ?_
                exact I3 x1 1 h ⟨rfl, (show (-1 ≤ x1 ∧ x1 ≤ 3) ∧ (0 ≤ 1 ∧ 1 ≤ 4) by omega), (laX.keep X3_0 (by omega))⟩ (show ((4 : Int) + 1 - 1).toNat < ((4 : Int) + 1 - x2).toNat by omega)
              ·
                refine wi_iload_n (i := 3) (e := 0) (nx := 92) (r1 := 0) (r2 := 0) (r3 := 0) rfl rfl ?_
                refine wi_istore_n (i := 2) (e := 0) (lo2 := [(2, vi 0), (4, vi (h 238 98)), (0, .ref 236), (1, vi a0), (3, vi 0)]) (nx := 93) (r1 := 0) (r2 := 0) (r3 := 0) rfl rfl ?_
                refine wr_iincL (i := 3) (n := 1) (v := 0) (1) ([(3, vi 1), (2, vi 0), (4, vi (h 238 98)), (0, .ref 236), (1, vi a0)]) (nx := 96) (r1 := 0) (r2 := 0) (r3 := 0) rfl rfl (by decide) rfl ?_
                refine wi_goto (nx := 99) (r1 := 4) (r2 := 0) (r3 := 0) rfl ?_
                refine wp.lo (lo := [(0, .ref 236), (1, vi a0), (2, vi 0), (3, vi 1)]) ⟨rfl, rfl, rfl, rfl, trivial⟩ rfl ?_
                have cn29 : roomL (h 238) 0 := ⟨(show (0 : Int) + 1 ≤ h 238 1 by omega), (show h 238 98 < h 238 15 by omega)⟩
                exact I3 0 1 h ⟨rfl, (show (-1 ≤ 0 ∧ 0 ≤ 3) ∧ (0 ≤ 1 ∧ 1 ≤ 4) by omega), (laX.yes 0 (by decide) (by omega) cn29)⟩ (show ((4 : Int) + 1 - 1).toNat < ((4 : Int) + 1 - x2).toNat by omega)
          ·
            refine wi_iload_n (i := 3) (e := 0) (nx := 71) (r1 := 0) (r2 := 0) (r3 := 0) rfl rfl ?_
            refine wi_ireturn (nx := 72) (r1 := 0) (r2 := 0) (r3 := 0) rfl rfl ?_
            have cn24 : roomL (h 238) 0 := ⟨(show (0 : Int) + 1 ≤ h 238 1 by omega), (show h 238 98 < h 238 15 by omega)⟩
            exact k 0 (by omega) (laX.yes 0 (by decide) (by omega) cn24)
    ·
      rw [q7]
      refine wr_V (k0 := 236) (rest := []) (as := [.ref 236, vi 1]) (nx := 19) (r1 := 277) (r2 := 1) (r3 := 11) rfl rfl rfl (of_decide_eq_true rfl) rfl rfl (by decide) rfl rfl (of_decide_eq_true rfl) (of_decide_eq_true rfl) ?_
      refine wi_aload_n (i := 0) (x := 236) (nx := 1) (r1 := 0) (r2 := 0) (r3 := 0) rfl rfl ?_
      refine wr_gr (k0 := 236) (x := 238) (nx := 4) (r1 := 11) (r2 := 13) (r3 := 0) rfl rfl (by decide) rfl ⟨rfl, rfl⟩ rfl ?_
      refine wi_bipush (n := 98) (nx := 6) (r1 := 0) (r2 := 0) (r3 := 0) rfl (by decide) ?_
      refine wi_iload_n (i := 1) (e := 1) (nx := 7) (r1 := 0) (r2 := 0) (r3 := 0) rfl rfl ?_
      refine wr_addL (99) (nx := 8) (r1 := 0) (r2 := 0) (r3 := 0) rfl (by decide) ?_
      have b8 := gi_b (lo := 0) (hi := 6) g 238 99 rfl
      refine wr_ia (k0 := 238) (a := 99) (f := 99) (x := h 238 99) (nx := 9) (r1 := 0) (r2 := 0) (r3 := 0) rfl (by decide) rfl (by omega) (by omega) (by decide) rfl ?_
      refine wi_aload_n (i := 0) (x := 236) (nx := 10) (r1 := 0) (r2 := 0) (r3 := 0) rfl rfl ?_
      refine wr_gr (k0 := 236) (x := 238) (nx := 13) (r1 := 11) (r2 := 13) (r3 := 0) rfl rfl (by decide) rfl ⟨rfl, rfl⟩ rfl ?_
      refine wi_bipush (n := 15) (nx := 15) (r1 := 0) (r2 := 0) (r3 := 0) rfl (by decide) ?_
      refine wi_iload_n (i := 1) (e := 1) (nx := 16) (r1 := 0) (r2 := 0) (r3 := 0) rfl rfl ?_
      refine wr_addL (16) (nx := 17) (r1 := 0) (r2 := 0) (r3 := 0) rfl (by decide) ?_
      have b9 := gi_b (lo := 0) (hi := 6) g 238 16 rfl
      refine wr_ia (k0 := 238) (a := 16) (f := 16) (x := h 238 16) (nx := 18) (r1 := 0) (r2 := 0) (r3 := 0) rfl (by decide) rfl (by omega) (by omega) (by decide) rfl ?_
      refine wi_icmp (cd := .ge) (nx := 21) (r1 := 25) (r2 := 0) (r3 := 0) rfl (by omega) (by omega) (fun (q10 : (h 238 16) ≤ (h 238 99)) => ?_) (fun (q10 : ¬ ((h 238 16) ≤ (h 238 99))) => ?_)
      ·
        refine wi_iconst (n := 0) (nx := 26) (r1 := 0) (r2 := 0) (r3 := 0) rfl ?_
        refine wi_zreturn (nx := 27) (r1 := 0) (r2 := 0) (r3 := 0) rfl rfl (by omega) ?_
        refine wk_i ?_
        refine wi_if (cd := .ne) (nx := 22) (r1 := 25) (r2 := 0) (r3 := 0) rfl (by omega) (fun (q11 : 0 ≠ 0) => by exfalso; omega) (fun (q11 : ¬ (0 ≠ 0)) => ?_)
        refine wi_goto (nx := 25) (r1 := 93) (r2 := 0) (r3 := 0) rfl ?_
        refine wr_iincL (i := 3) (n := 1) (v := 1) (2) ([(3, vi 2), (0, .ref 236), (1, vi a0), (2, vi x1)]) (nx := 96) (r1 := 0) (r2 := 0) (r3 := 0) rfl rfl (by decide) rfl ?_
        refine wi_goto (nx := 99) (r1 := 4) (r2 := 0) (r3 := 0) rfl ?_
        refine wp.lo (lo := [(0, .ref 236), (1, vi a0), (2, vi x1), (3, vi 2)]) ⟨rfl, rfl, rfl, rfl, trivial⟩ rfl ?_
        have cn12 : ¬ roomL (h 238) 1 := fun c => by
          have c2 : h 238 99 < h 238 16 := c.2
          omega
        exact I3 x1 2 h ⟨rfl, (show (-1 ≤ x1 ∧ x1 ≤ 3) ∧ (0 ≤ 2 ∧ 2 ≤ 4) by omega), (laX.no X3_0 (by omega) 1 (by omega) cn12)⟩ (show ((4 : Int) + 1 - 2).toNat < ((4 : Int) + 1 - x2).toNat by omega)
      ·
        refine wi_iconst (n := 1) (nx := 22) (r1 := 0) (r2 := 0) (r3 := 0) rfl ?_
        refine wi_goto (nx := 25) (r1 := 26) (r2 := 0) (r3 := 0) rfl ?_
        refine wi_zreturn (nx := 27) (r1 := 0) (r2 := 0) (r3 := 0) rfl rfl (by omega) ?_
        refine wk_i ?_
        refine wi_if (cd := .ne) (nx := 22) (r1 := 25) (r2 := 0) (r3 := 0) rfl (by omega) (fun (q11 : 1 ≠ 0) => ?_) (fun (q11 : ¬ (1 ≠ 0)) => by exfalso; omega)
        refine wi_aload_n (i := 0) (x := 236) (nx := 26) (r1 := 0) (r2 := 0) (r3 := 0) rfl rfl ?_
        refine wr_gr (k0 := 236) (x := 238) (nx := 29) (r1 := 11) (r2 := 13) (r3 := 0) rfl rfl (by decide) rfl ⟨rfl, rfl⟩ rfl ?_
        refine wi_bipush (n := 98) (nx := 31) (r1 := 0) (r2 := 0) (r3 := 0) rfl (by decide) ?_
        refine wi_iload_n (i := 3) (e := 1) (nx := 32) (r1 := 0) (r2 := 0) (r3 := 0) rfl rfl ?_
        refine wr_addL (99) (nx := 33) (r1 := 0) (r2 := 0) (r3 := 0) rfl (by decide) ?_
        refine wr_ia (k0 := 238) (a := 99) (f := 99) (x := h 238 99) (nx := 34) (r1 := 0) (r2 := 0) (r3 := 0) rfl (by decide) rfl (by omega) (by omega) (by decide) rfl ?_
        refine wi_istore (i := 4) (e := h 238 99) (lo2 := [(4, vi (h 238 99)), (0, .ref 236), (1, vi a0), (2, vi x1), (3, vi 1)]) (nx := 36) (r1 := 0) (r2 := 0) (r3 := 0) rfl rfl ?_
        refine wi_iload (i := 4) (e := h 238 99) (nx := 38) (r1 := 0) (r2 := 0) (r3 := 0) rfl rfl ?_
        refine wi_if (cd := .le) (nx := 41) (r1 := 72) (r2 := 0) (r3 := 0) rfl (by omega) (fun (q12 : (h 238 99) ≤ 0) => ?_) (fun (q12 : ¬ ((h 238 99) ≤ 0)) => ?_)
        ·
          refine wi_iload_n (i := 2) (e := x1) (nx := 73) (r1 := 0) (r2 := 0) (r3 := 0) rfl rfl ?_
          refine wi_iconst (n := (-1)) (nx := 74) (r1 := 0) (r2 := 0) (r3 := 0) rfl ?_
          refine wi_icmp (cd := .eq) (nx := 77) (r1 := 91) (r2 := 0) (r3 := 0) rfl (by omega) (by omega) (fun (q13 : x1 = (-1)) => ?_) (fun (q13 : ¬ (x1 = (-1))) => ?_)
          ·
            refine wi_iload_n (i := 3) (e := 1) (nx := 92) (r1 := 0) (r2 := 0) (r3 := 0) rfl rfl ?_
            refine wi_istore_n (i := 2) (e := 1) (lo2 := [(2, vi 1), (4, vi (h 238 99)), (0, .ref 236), (1, vi a0), (3, vi 1)]) (nx := 93) (r1 := 0) (r2 := 0) (r3 := 0) rfl rfl ?_
            refine wr_iincL (i := 3) (n := 1) (v := 1) (2) ([(3, vi 2), (2, vi 1), (4, vi (h 238 99)), (0, .ref 236), (1, vi a0)]) (nx := 96) (r1 := 0) (r2 := 0) (r3 := 0) rfl rfl (by decide) rfl ?_
            refine wi_goto (nx := 99) (r1 := 4) (r2 := 0) (r3 := 0) rfl ?_
            refine wp.lo (lo := [(0, .ref 236), (1, vi a0), (2, vi 1), (3, vi 2)]) ⟨rfl, rfl, rfl, rfl, trivial⟩ rfl ?_
            have cn14 : roomL (h 238) 1 := ⟨(show (1 : Int) + 1 ≤ h 238 1 by omega), (show h 238 99 < h 238 16 by omega)⟩
            exact I3 1 2 h ⟨rfl, (show (-1 ≤ 1 ∧ 1 ≤ 3) ∧ (0 ≤ 2 ∧ 2 ≤ 4) by omega), (laX.yes 1 (by decide) (by omega) cn14)⟩ (show ((4 : Int) + 1 - 2).toNat < ((4 : Int) + 1 - x2).toNat by omega)
          ·
            refine wi_iload (i := 4) (e := h 238 99) (nx := 79) (r1 := 0) (r2 := 0) (r3 := 0) rfl rfl ?_
            refine wi_aload_n (i := 0) (x := 236) (nx := 80) (r1 := 0) (r2 := 0) (r3 := 0) rfl rfl ?_
            refine wr_gr (k0 := 236) (x := 238) (nx := 83) (r1 := 11) (r2 := 13) (r3 := 0) rfl rfl (by decide) rfl ⟨rfl, rfl⟩ rfl ?_
            refine wi_bipush (n := 98) (nx := 85) (r1 := 0) (r2 := 0) (r3 := 0) rfl (by decide) ?_
            refine wi_iload_n (i := 2) (e := x1) (nx := 86) (r1 := 0) (r2 := 0) (r3 := 0) rfl rfl ?_
            refine wr_add (nx := 87) (r1 := 0) (r2 := 0) (r3 := 0) rfl (fun e14 (fe14 : e14 = 98 + x1) => ?_)
            obtain ⟨i15, ei15⟩ : ∃ q : Nat, e14 = (q : Int) := ⟨(e14).toNat, by omega⟩
            have b16 := gi_b (lo := 0) (hi := 6) g 238 i15 (gi_rg 98 4 (fun _ => rfl) (by decide +kernel) (by omega))
            refine wr_ia (k0 := 238) (a := e14) (f := i15) (x := h 238 i15) (nx := 88) (r1 := 0) (r2 := 0) (r3 := 0) rfl (by decide) rfl (by omega) (by omega) (by decide) rfl ?_
            refine wi_icmp (cd := .ge) (nx := 91) (r1 := 93) (r2 := 0) (r3 := 0) rfl (by omega) (by omega) (fun (q17 : (h 238 i15) ≤ (h 238 99)) => ?_) (fun (q17 : ¬ ((h 238 i15) ≤ (h 238 99))) => ?_)
            ·
              refine wr_iincL (i := 3) (n := 1) (v := 1) (2) ([(3, vi 2), (4, vi (h 238 99)), (0, .ref 236), (1, vi a0), (2, vi x1)]) (nx := 96) (r1 := 0) (r2 := 0) (r3 := 0) rfl rfl (by decide) rfl ?_
              refine wi_goto (nx := 99) (r1 := 4) (r2 := 0) (r3 := 0) rfl ?_
              refine wp.lo (lo := [(0, .ref 236), (1, vi a0), (2, vi x1), (3, vi 2)]) ⟨rfl, rfl, rfl, rfl, trivial⟩ rfl ?_
              exact I3 x1 2 h ⟨rfl, (show (-1 ≤ x1 ∧ x1 ≤ 3) ∧ (0 ≤ 2 ∧ 2 ≤ 4) by omega), (laX.keep X3_0 (by omega))⟩ (show ((4 : Int) + 1 - 2).toNat < ((4 : Int) + 1 - x2).toNat by omega)
            ·
              refine wi_iload_n (i := 3) (e := 1) (nx := 92) (r1 := 0) (r2 := 0) (r3 := 0) rfl rfl ?_
              refine wi_istore_n (i := 2) (e := 1) (lo2 := [(2, vi 1), (4, vi (h 238 99)), (0, .ref 236), (1, vi a0), (3, vi 1)]) (nx := 93) (r1 := 0) (r2 := 0) (r3 := 0) rfl rfl ?_
              refine wr_iincL (i := 3) (n := 1) (v := 1) (2) ([(3, vi 2), (2, vi 1), (4, vi (h 238 99)), (0, .ref 236), (1, vi a0)]) (nx := 96) (r1 := 0) (r2 := 0) (r3 := 0) rfl rfl (by decide) rfl ?_
              refine wi_goto (nx := 99) (r1 := 4) (r2 := 0) (r3 := 0) rfl ?_
              refine wp.lo (lo := [(0, .ref 236), (1, vi a0), (2, vi 1), (3, vi 2)]) ⟨rfl, rfl, rfl, rfl, trivial⟩ rfl ?_
              have cn18 : roomL (h 238) 1 := ⟨(show (1 : Int) + 1 ≤ h 238 1 by omega), (show h 238 99 < h 238 16 by omega)⟩
              exact I3 1 2 h ⟨rfl, (show (-1 ≤ 1 ∧ 1 ≤ 3) ∧ (0 ≤ 2 ∧ 2 ≤ 4) by omega), (laX.yes 1 (by decide) (by omega) cn18)⟩ (show ((4 : Int) + 1 - 2).toNat < ((4 : Int) + 1 - x2).toNat by omega)
        ·
          refine wi_aload_n (i := 0) (x := 236) (nx := 42) (r1 := 0) (r2 := 0) (r3 := 0) rfl rfl ?_
          refine wr_gr (k0 := 236) (x := 238) (nx := 45) (r1 := 11) (r2 := 13) (r3 := 0) rfl rfl (by decide) rfl ⟨rfl, rfl⟩ rfl ?_
          refine wi_bipush (n := 31) (nx := 47) (r1 := 0) (r2 := 0) (r3 := 0) rfl (by decide) ?_
          refine wi_aload_n (i := 0) (x := 236) (nx := 48) (r1 := 0) (r2 := 0) (r3 := 0) rfl rfl ?_
          refine wi_iload_n (i := 3) (e := 1) (nx := 49) (r1 := 0) (r2 := 0) (r3 := 0) rfl rfl ?_
          refine wi_iload (i := 4) (e := h 238 99) (nx := 51) (r1 := 0) (r2 := 0) (r3 := 0) rfl rfl ?_
          refine wi_iconst (n := 1) (nx := 52) (r1 := 0) (r2 := 0) (r3 := 0) rfl ?_
          refine wr_sub (nx := 53) (r1 := 0) (r2 := 0) (r3 := 0) rfl (fun e13 (fe13 : e13 = (h 238 99) - 1) => ?_)
          refine wr_V (k0 := 236) (rest := [vi 31, .ref 238]) (as := [.ref 236, vi 1, vi e13]) (nx := 56) (r1 := 258) (r2 := 2) (r3 := 11) rfl rfl rfl (of_decide_eq_true rfl) rfl rfl (by decide) rfl rfl (of_decide_eq_true rfl) (of_decide_eq_true rfl) ?_
          refine wi_aload_n (i := 0) (x := 236) (nx := 1) (r1 := 0) (r2 := 0) (r3 := 0) rfl rfl ?_
          refine wr_gr (k0 := 236) (x := 238) (nx := 4) (r1 := 11) (r2 := 13) (r3 := 0) rfl rfl (by decide) rfl ⟨rfl, rfl⟩ rfl ?_
          refine wi_bipush (n := 74) (nx := 6) (r1 := 0) (r2 := 0) (r3 := 0) rfl (by decide) ?_
          refine wi_bipush (n := 6) (nx := 8) (r1 := 0) (r2 := 0) (r3 := 0) rfl (by decide) ?_
          refine wi_iload_n (i := 1) (e := 1) (nx := 9) (r1 := 0) (r2 := 0) (r3 := 0) rfl rfl ?_
          refine wr_mulL (6) (nx := 10) (r1 := 0) (r2 := 0) (r3 := 0) rfl (by decide) ?_
          refine wr_addL (80) (nx := 11) (r1 := 0) (r2 := 0) (r3 := 0) rfl (by decide) ?_
          refine wi_iload_n (i := 2) (e := e13) (nx := 12) (r1 := 0) (r2 := 0) (r3 := 0) rfl rfl ?_
          refine wr_add (nx := 13) (r1 := 0) (r2 := 0) (r3 := 0) rfl (fun e14 (fe14 : e14 = 80 + e13) => ?_)
          obtain ⟨i15, ei15⟩ : ∃ q : Nat, e14 = (q : Int) := ⟨(e14).toNat, by omega⟩
          have b16 := gi_b (lo := 0) (hi := 11) g 238 i15 (gi_rg 80 5 (fun _ => rfl) (by decide +kernel) (by omega))
          refine wr_ia (k0 := 238) (a := e14) (f := i15) (x := h 238 i15) (nx := 14) (r1 := 0) (r2 := 0) (r3 := 0) rfl (by decide) rfl (by omega) (by omega) (by decide) rfl ?_
          refine wi_ireturn (nx := 15) (r1 := 0) (r2 := 0) (r3 := 0) rfl rfl ?_
          refine wk_i ?_
          refine wr_add (nx := 57) (r1 := 0) (r2 := 0) (r3 := 0) rfl (fun e17 (fe17 : e17 = 31 + (h 238 i15)) => ?_)
          obtain ⟨i18, ei18⟩ : ∃ q : Nat, e17 = (q : Int) := ⟨(e17).toNat, by omega⟩
          have b19 := gi_b (lo := 0) (hi := 4) g 238 i18 (gi_rg 31 12 (fun _ => rfl) (by decide +kernel) (by omega))
          refine wr_ia (k0 := 238) (a := e17) (f := i18) (x := h 238 i18) (nx := 58) (r1 := 0) (r2 := 0) (r3 := 0) rfl (by decide) rfl (by omega) (by omega) (by decide) rfl ?_
          refine wi_aload_n (i := 0) (x := 236) (nx := 59) (r1 := 0) (r2 := 0) (r3 := 0) rfl rfl ?_
          refine wr_gr (k0 := 236) (x := 238) (nx := 62) (r1 := 11) (r2 := 13) (r3 := 0) rfl rfl (by decide) rfl ⟨rfl, rfl⟩ rfl ?_
          refine wi_bipush (n := 31) (nx := 64) (r1 := 0) (r2 := 0) (r3 := 0) rfl (by decide) ?_
          refine wi_iload_n (i := 1) (e := a0) (nx := 65) (r1 := 0) (r2 := 0) (r3 := 0) rfl rfl ?_
          refine wr_add (nx := 66) (r1 := 0) (r2 := 0) (r3 := 0) rfl (fun e20 (fe20 : e20 = 31 + a0) => ?_)
          obtain ⟨i21, ei21⟩ : ∃ q : Nat, e20 = (q : Int) := ⟨(e20).toNat, by omega⟩
          have b22 := gi_b (lo := 0) (hi := 4) g 238 i21 (gi_rg 31 12 (fun _ => rfl) (by decide +kernel) (by omega))
          refine wr_ia (k0 := 238) (a := e20) (f := i21) (x := h 238 i21) (nx := 67) (r1 := 0) (r2 := 0) (r3 := 0) rfl (by decide) rfl (by omega) (by omega) (by decide) rfl ?_
          refine wi_icmp (cd := .ne) (nx := 70) (r1 := 72) (r2 := 0) (r3 := 0) rfl (by omega) (by omega) (fun (q23 : (h 238 i18) ≠ (h 238 i21)) => ?_) (fun (q23 : ¬ ((h 238 i18) ≠ (h 238 i21))) => ?_)
          ·
            refine wi_iload_n (i := 2) (e := x1) (nx := 73) (r1 := 0) (r2 := 0) (r3 := 0) rfl rfl ?_
            refine wi_iconst (n := (-1)) (nx := 74) (r1 := 0) (r2 := 0) (r3 := 0) rfl ?_
            refine wi_icmp (cd := .eq) (nx := 77) (r1 := 91) (r2 := 0) (r3 := 0) rfl (by omega) (by omega) (fun (q24 : x1 = (-1)) => ?_) (fun (q24 : ¬ (x1 = (-1))) => ?_)
            ·
              refine wi_iload_n (i := 3) (e := 1) (nx := 92) (r1 := 0) (r2 := 0) (r3 := 0) rfl rfl ?_
              refine wi_istore_n (i := 2) (e := 1) (lo2 := [(2, vi 1), (4, vi (h 238 99)), (0, .ref 236), (1, vi a0), (3, vi 1)]) (nx := 93) (r1 := 0) (r2 := 0) (r3 := 0) rfl rfl ?_
              refine wr_iincL (i := 3) (n := 1) (v := 1) (2) ([(3, vi 2), (2, vi 1), (4, vi (h 238 99)), (0, .ref 236), (1, vi a0)]) (nx := 96) (r1 := 0) (r2 := 0) (r3 := 0) rfl rfl (by decide) rfl ?_
              refine wi_goto (nx := 99) (r1 := 4) (r2 := 0) (r3 := 0) rfl ?_
              refine wp.lo (lo := [(0, .ref 236), (1, vi a0), (2, vi 1), (3, vi 2)]) ⟨rfl, rfl, rfl, rfl, trivial⟩ rfl ?_
              have cn25 : roomL (h 238) 1 := ⟨(show (1 : Int) + 1 ≤ h 238 1 by omega), (show h 238 99 < h 238 16 by omega)⟩
              exact I3 1 2 h ⟨rfl, (show (-1 ≤ 1 ∧ 1 ≤ 3) ∧ (0 ≤ 2 ∧ 2 ≤ 4) by omega), (laX.yes 1 (by decide) (by omega) cn25)⟩ (show ((4 : Int) + 1 - 2).toNat < ((4 : Int) + 1 - x2).toNat by omega)
            ·
              refine wi_iload (i := 4) (e := h 238 99) (nx := 79) (r1 := 0) (r2 := 0) (r3 := 0) rfl rfl ?_
              refine wi_aload_n (i := 0) (x := 236) (nx := 80) (r1 := 0) (r2 := 0) (r3 := 0) rfl rfl ?_
              refine wr_gr (k0 := 236) (x := 238) (nx := 83) (r1 := 11) (r2 := 13) (r3 := 0) rfl rfl (by decide) rfl ⟨rfl, rfl⟩ rfl ?_
              refine wi_bipush (n := 98) (nx := 85) (r1 := 0) (r2 := 0) (r3 := 0) rfl (by decide) ?_
              refine wi_iload_n (i := 2) (e := x1) (nx := 86) (r1 := 0) (r2 := 0) (r3 := 0) rfl rfl ?_
              refine wr_add (nx := 87) (r1 := 0) (r2 := 0) (r3 := 0) rfl (fun e25 (fe25 : e25 = 98 + x1) => ?_)
              obtain ⟨i26, ei26⟩ : ∃ q : Nat, e25 = (q : Int) := ⟨(e25).toNat, by omega⟩
              have b27 := gi_b (lo := 0) (hi := 6) g 238 i26 (gi_rg 98 4 (fun _ => rfl) (by decide +kernel) (by omega))
              refine wr_ia (k0 := 238) (a := e25) (f := i26) (x := h 238 i26) (nx := 88) (r1 := 0) (r2 := 0) (r3 := 0) rfl (by decide) rfl (by omega) (by omega) (by decide) rfl ?_
              refine wi_icmp (cd := .ge) (nx := 91) (r1 := 93) (r2 := 0) (r3 := 0) rfl (by omega) (by omega) (fun (q28 : (h 238 i26) ≤ (h 238 99)) => ?_) (fun (q28 : ¬ ((h 238 i26) ≤ (h 238 99))) => ?_)
              ·
                refine wr_iincL (i := 3) (n := 1) (v := 1) (2) ([(3, vi 2), (4, vi (h 238 99)), (0, .ref 236), (1, vi a0), (2, vi x1)]) (nx := 96) (r1 := 0) (r2 := 0) (r3 := 0) rfl rfl (by decide) rfl ?_
                refine wi_goto (nx := 99) (r1 := 4) (r2 := 0) (r3 := 0) rfl ?_
                refine wp.lo (lo := [(0, .ref 236), (1, vi a0), (2, vi x1), (3, vi 2)]) ⟨rfl, rfl, rfl, rfl, trivial⟩ rfl ?_
                exact I3 x1 2 h ⟨rfl, (show (-1 ≤ x1 ∧ x1 ≤ 3) ∧ (0 ≤ 2 ∧ 2 ≤ 4) by omega), (laX.keep X3_0 (by omega))⟩ (show ((4 : Int) + 1 - 2).toNat < ((4 : Int) + 1 - x2).toNat by omega)
              ·
                refine wi_iload_n (i := 3) (e := 1) (nx := 92) (r1 := 0) (r2 := 0) (r3 := 0) rfl rfl ?_
                refine wi_istore_n (i := 2) (e := 1) (lo2 := [(2, vi 1), (4, vi (h 238 99)), (0, .ref 236), (1, vi a0), (3, vi 1)]) (nx := 93) (r1 := 0) (r2 := 0) (r3 := 0) rfl rfl ?_
                refine wr_iincL (i := 3) (n := 1) (v := 1) (2) ([(3, vi 2), (2, vi 1), (4, vi (h 238 99)), (0, .ref 236), (1, vi a0)]) (nx := 96) (r1 := 0) (r2 := 0) (r3 := 0) rfl rfl (by decide) rfl ?_
                refine wi_goto (nx := 99) (r1 := 4) (r2 := 0) (r3 := 0) rfl ?_
                refine wp.lo (lo := [(0, .ref 236), (1, vi a0), (2, vi 1), (3, vi 2)]) ⟨rfl, rfl, rfl, rfl, trivial⟩ rfl ?_
                have cn29 : roomL (h 238) 1 := ⟨(show (1 : Int) + 1 ≤ h 238 1 by omega), (show h 238 99 < h 238 16 by omega)⟩
                exact I3 1 2 h ⟨rfl, (show (-1 ≤ 1 ∧ 1 ≤ 3) ∧ (0 ≤ 2 ∧ 2 ≤ 4) by omega), (laX.yes 1 (by decide) (by omega) cn29)⟩ (show ((4 : Int) + 1 - 2).toNat < ((4 : Int) + 1 - x2).toNat by omega)
          ·
            refine wi_iload_n (i := 3) (e := 1) (nx := 71) (r1 := 0) (r2 := 0) (r3 := 0) rfl rfl ?_
            refine wi_ireturn (nx := 72) (r1 := 0) (r2 := 0) (r3 := 0) rfl rfl ?_
            have cn24 : roomL (h 238) 1 := ⟨(show (1 : Int) + 1 ≤ h 238 1 by omega), (show h 238 99 < h 238 16 by omega)⟩
            exact k 1 (by omega) (laX.yes 1 (by decide) (by omega) cn24)
    ·
      rw [q7]
      refine wr_V (k0 := 236) (rest := []) (as := [.ref 236, vi 2]) (nx := 19) (r1 := 277) (r2 := 1) (r3 := 11) rfl rfl rfl (of_decide_eq_true rfl) rfl rfl (by decide) rfl rfl (of_decide_eq_true rfl) (of_decide_eq_true rfl) ?_
      refine wi_aload_n (i := 0) (x := 236) (nx := 1) (r1 := 0) (r2 := 0) (r3 := 0) rfl rfl ?_
      refine wr_gr (k0 := 236) (x := 238) (nx := 4) (r1 := 11) (r2 := 13) (r3 := 0) rfl rfl (by decide) rfl ⟨rfl, rfl⟩ rfl ?_
      refine wi_bipush (n := 98) (nx := 6) (r1 := 0) (r2 := 0) (r3 := 0) rfl (by decide) ?_
      refine wi_iload_n (i := 1) (e := 2) (nx := 7) (r1 := 0) (r2 := 0) (r3 := 0) rfl rfl ?_
      refine wr_addL (100) (nx := 8) (r1 := 0) (r2 := 0) (r3 := 0) rfl (by decide) ?_
      have b8 := gi_b (lo := 0) (hi := 6) g 238 100 rfl
      refine wr_ia (k0 := 238) (a := 100) (f := 100) (x := h 238 100) (nx := 9) (r1 := 0) (r2 := 0) (r3 := 0) rfl (by decide) rfl (by omega) (by omega) (by decide) rfl ?_
      refine wi_aload_n (i := 0) (x := 236) (nx := 10) (r1 := 0) (r2 := 0) (r3 := 0) rfl rfl ?_
      refine wr_gr (k0 := 236) (x := 238) (nx := 13) (r1 := 11) (r2 := 13) (r3 := 0) rfl rfl (by decide) rfl ⟨rfl, rfl⟩ rfl ?_
      refine wi_bipush (n := 15) (nx := 15) (r1 := 0) (r2 := 0) (r3 := 0) rfl (by decide) ?_
      refine wi_iload_n (i := 1) (e := 2) (nx := 16) (r1 := 0) (r2 := 0) (r3 := 0) rfl rfl ?_
      refine wr_addL (17) (nx := 17) (r1 := 0) (r2 := 0) (r3 := 0) rfl (by decide) ?_
      have b9 := gi_b (lo := 0) (hi := 6) g 238 17 rfl
      refine wr_ia (k0 := 238) (a := 17) (f := 17) (x := h 238 17) (nx := 18) (r1 := 0) (r2 := 0) (r3 := 0) rfl (by decide) rfl (by omega) (by omega) (by decide) rfl ?_
      refine wi_icmp (cd := .ge) (nx := 21) (r1 := 25) (r2 := 0) (r3 := 0) rfl (by omega) (by omega) (fun (q10 : (h 238 17) ≤ (h 238 100)) => ?_) (fun (q10 : ¬ ((h 238 17) ≤ (h 238 100))) => ?_)
      ·
        refine wi_iconst (n := 0) (nx := 26) (r1 := 0) (r2 := 0) (r3 := 0) rfl ?_
        refine wi_zreturn (nx := 27) (r1 := 0) (r2 := 0) (r3 := 0) rfl rfl (by omega) ?_
        refine wk_i ?_
        refine wi_if (cd := .ne) (nx := 22) (r1 := 25) (r2 := 0) (r3 := 0) rfl (by omega) (fun (q11 : 0 ≠ 0) => by exfalso; omega) (fun (q11 : ¬ (0 ≠ 0)) => ?_)
        refine wi_goto (nx := 25) (r1 := 93) (r2 := 0) (r3 := 0) rfl ?_
        refine wr_iincL (i := 3) (n := 1) (v := 2) (3) ([(3, vi 3), (0, .ref 236), (1, vi a0), (2, vi x1)]) (nx := 96) (r1 := 0) (r2 := 0) (r3 := 0) rfl rfl (by decide) rfl ?_
        refine wi_goto (nx := 99) (r1 := 4) (r2 := 0) (r3 := 0) rfl ?_
        refine wp.lo (lo := [(0, .ref 236), (1, vi a0), (2, vi x1), (3, vi 3)]) ⟨rfl, rfl, rfl, rfl, trivial⟩ rfl ?_
        have cn12 : ¬ roomL (h 238) 2 := fun c => by
          have c2 : h 238 100 < h 238 17 := c.2
          omega
        exact I3 x1 3 h ⟨rfl, (show (-1 ≤ x1 ∧ x1 ≤ 3) ∧ (0 ≤ 3 ∧ 3 ≤ 4) by omega), (laX.no X3_0 (by omega) 2 (by omega) cn12)⟩ (show ((4 : Int) + 1 - 3).toNat < ((4 : Int) + 1 - x2).toNat by omega)
      ·
        refine wi_iconst (n := 1) (nx := 22) (r1 := 0) (r2 := 0) (r3 := 0) rfl ?_
        refine wi_goto (nx := 25) (r1 := 26) (r2 := 0) (r3 := 0) rfl ?_
        refine wi_zreturn (nx := 27) (r1 := 0) (r2 := 0) (r3 := 0) rfl rfl (by omega) ?_
        refine wk_i ?_
        refine wi_if (cd := .ne) (nx := 22) (r1 := 25) (r2 := 0) (r3 := 0) rfl (by omega) (fun (q11 : 1 ≠ 0) => ?_) (fun (q11 : ¬ (1 ≠ 0)) => by exfalso; omega)
        refine wi_aload_n (i := 0) (x := 236) (nx := 26) (r1 := 0) (r2 := 0) (r3 := 0) rfl rfl ?_
        refine wr_gr (k0 := 236) (x := 238) (nx := 29) (r1 := 11) (r2 := 13) (r3 := 0) rfl rfl (by decide) rfl ⟨rfl, rfl⟩ rfl ?_
        refine wi_bipush (n := 98) (nx := 31) (r1 := 0) (r2 := 0) (r3 := 0) rfl (by decide) ?_
        refine wi_iload_n (i := 3) (e := 2) (nx := 32) (r1 := 0) (r2 := 0) (r3 := 0) rfl rfl ?_
        refine wr_addL (100) (nx := 33) (r1 := 0) (r2 := 0) (r3 := 0) rfl (by decide) ?_
        refine wr_ia (k0 := 238) (a := 100) (f := 100) (x := h 238 100) (nx := 34) (r1 := 0) (r2 := 0) (r3 := 0) rfl (by decide) rfl (by omega) (by omega) (by decide) rfl ?_
        refine wi_istore (i := 4) (e := h 238 100) (lo2 := [(4, vi (h 238 100)), (0, .ref 236), (1, vi a0), (2, vi x1), (3, vi 2)]) (nx := 36) (r1 := 0) (r2 := 0) (r3 := 0) rfl rfl ?_
        refine wi_iload (i := 4) (e := h 238 100) (nx := 38) (r1 := 0) (r2 := 0) (r3 := 0) rfl rfl ?_
        refine wi_if (cd := .le) (nx := 41) (r1 := 72) (r2 := 0) (r3 := 0) rfl (by omega) (fun (q12 : (h 238 100) ≤ 0) => ?_) (fun (q12 : ¬ ((h 238 100) ≤ 0)) => ?_)
        ·
          refine wi_iload_n (i := 2) (e := x1) (nx := 73) (r1 := 0) (r2 := 0) (r3 := 0) rfl rfl ?_
          refine wi_iconst (n := (-1)) (nx := 74) (r1 := 0) (r2 := 0) (r3 := 0) rfl ?_
          refine wi_icmp (cd := .eq) (nx := 77) (r1 := 91) (r2 := 0) (r3 := 0) rfl (by omega) (by omega) (fun (q13 : x1 = (-1)) => ?_) (fun (q13 : ¬ (x1 = (-1))) => ?_)
          ·
            refine wi_iload_n (i := 3) (e := 2) (nx := 92) (r1 := 0) (r2 := 0) (r3 := 0) rfl rfl ?_
            refine wi_istore_n (i := 2) (e := 2) (lo2 := [(2, vi 2), (4, vi (h 238 100)), (0, .ref 236), (1, vi a0), (3, vi 2)]) (nx := 93) (r1 := 0) (r2 := 0) (r3 := 0) rfl rfl ?_
            refine wr_iincL (i := 3) (n := 1) (v := 2) (3) ([(3, vi 3), (2, vi 2), (4, vi (h 238 100)), (0, .ref 236), (1, vi a0)]) (nx := 96) (r1 := 0) (r2 := 0) (r3 := 0) rfl rfl (by decide) rfl ?_
            refine wi_goto (nx := 99) (r1 := 4) (r2 := 0) (r3 := 0) rfl ?_
            refine wp.lo (lo := [(0, .ref 236), (1, vi a0), (2, vi 2), (3, vi 3)]) ⟨rfl, rfl, rfl, rfl, trivial⟩ rfl ?_
            have cn14 : roomL (h 238) 2 := ⟨(show (2 : Int) + 1 ≤ h 238 1 by omega), (show h 238 100 < h 238 17 by omega)⟩
            exact I3 2 3 h ⟨rfl, (show (-1 ≤ 2 ∧ 2 ≤ 3) ∧ (0 ≤ 3 ∧ 3 ≤ 4) by omega), (laX.yes 2 (by decide) (by omega) cn14)⟩ (show ((4 : Int) + 1 - 3).toNat < ((4 : Int) + 1 - x2).toNat by omega)
          ·
            refine wi_iload (i := 4) (e := h 238 100) (nx := 79) (r1 := 0) (r2 := 0) (r3 := 0) rfl rfl ?_
            refine wi_aload_n (i := 0) (x := 236) (nx := 80) (r1 := 0) (r2 := 0) (r3 := 0) rfl rfl ?_
            refine wr_gr (k0 := 236) (x := 238) (nx := 83) (r1 := 11) (r2 := 13) (r3 := 0) rfl rfl (by decide) rfl ⟨rfl, rfl⟩ rfl ?_
            refine wi_bipush (n := 98) (nx := 85) (r1 := 0) (r2 := 0) (r3 := 0) rfl (by decide) ?_
            refine wi_iload_n (i := 2) (e := x1) (nx := 86) (r1 := 0) (r2 := 0) (r3 := 0) rfl rfl ?_
            refine wr_add (nx := 87) (r1 := 0) (r2 := 0) (r3 := 0) rfl (fun e14 (fe14 : e14 = 98 + x1) => ?_)
            obtain ⟨i15, ei15⟩ : ∃ q : Nat, e14 = (q : Int) := ⟨(e14).toNat, by omega⟩
            have b16 := gi_b (lo := 0) (hi := 6) g 238 i15 (gi_rg 98 4 (fun _ => rfl) (by decide +kernel) (by omega))
            refine wr_ia (k0 := 238) (a := e14) (f := i15) (x := h 238 i15) (nx := 88) (r1 := 0) (r2 := 0) (r3 := 0) rfl (by decide) rfl (by omega) (by omega) (by decide) rfl ?_
            refine wi_icmp (cd := .ge) (nx := 91) (r1 := 93) (r2 := 0) (r3 := 0) rfl (by omega) (by omega) (fun (q17 : (h 238 i15) ≤ (h 238 100)) => ?_) (fun (q17 : ¬ ((h 238 i15) ≤ (h 238 100))) => ?_)
            ·
              refine wr_iincL (i := 3) (n := 1) (v := 2) (3) ([(3, vi 3), (4, vi (h 238 100)), (0, .ref 236), (1, vi a0), (2, vi x1)]) (nx := 96) (r1 := 0) (r2 := 0) (r3 := 0) rfl rfl (by decide) rfl ?_
              refine wi_goto (nx := 99) (r1 := 4) (r2 := 0) (r3 := 0) rfl ?_
              refine wp.lo (lo := [(0, .ref 236), (1, vi a0), (2, vi x1), (3, vi 3)]) ⟨rfl, rfl, rfl, rfl, trivial⟩ rfl ?_
              exact I3 x1 3 h ⟨rfl, (show (-1 ≤ x1 ∧ x1 ≤ 3) ∧ (0 ≤ 3 ∧ 3 ≤ 4) by omega), (laX.keep X3_0 (by omega))⟩ (show ((4 : Int) + 1 - 3).toNat < ((4 : Int) + 1 - x2).toNat by omega)
            ·
              refine wi_iload_n (i := 3) (e := 2) (nx := 92) (r1 := 0) (r2 := 0) (r3 := 0) rfl rfl ?_
              refine wi_istore_n (i := 2) (e := 2) (lo2 := [(2, vi 2), (4, vi (h 238 100)), (0, .ref 236), (1, vi a0), (3, vi 2)]) (nx := 93) (r1 := 0) (r2 := 0) (r3 := 0) rfl rfl ?_
              refine wr_iincL (i := 3) (n := 1) (v := 2) (3) ([(3, vi 3), (2, vi 2), (4, vi (h 238 100)), (0, .ref 236), (1, vi a0)]) (nx := 96) (r1 := 0) (r2 := 0) (r3 := 0) rfl rfl (by decide) rfl ?_
              refine wi_goto (nx := 99) (r1 := 4) (r2 := 0) (r3 := 0) rfl ?_
              refine wp.lo (lo := [(0, .ref 236), (1, vi a0), (2, vi 2), (3, vi 3)]) ⟨rfl, rfl, rfl, rfl, trivial⟩ rfl ?_
              have cn18 : roomL (h 238) 2 := ⟨(show (2 : Int) + 1 ≤ h 238 1 by omega), (show h 238 100 < h 238 17 by omega)⟩
              exact I3 2 3 h ⟨rfl, (show (-1 ≤ 2 ∧ 2 ≤ 3) ∧ (0 ≤ 3 ∧ 3 ≤ 4) by omega), (laX.yes 2 (by decide) (by omega) cn18)⟩ (show ((4 : Int) + 1 - 3).toNat < ((4 : Int) + 1 - x2).toNat by omega)
        ·
          refine wi_aload_n (i := 0) (x := 236) (nx := 42) (r1 := 0) (r2 := 0) (r3 := 0) rfl rfl ?_
          refine wr_gr (k0 := 236) (x := 238) (nx := 45) (r1 := 11) (r2 := 13) (r3 := 0) rfl rfl (by decide) rfl ⟨rfl, rfl⟩ rfl ?_
          refine wi_bipush (n := 31) (nx := 47) (r1 := 0) (r2 := 0) (r3 := 0) rfl (by decide) ?_
          refine wi_aload_n (i := 0) (x := 236) (nx := 48) (r1 := 0) (r2 := 0) (r3 := 0) rfl rfl ?_
          refine wi_iload_n (i := 3) (e := 2) (nx := 49) (r1 := 0) (r2 := 0) (r3 := 0) rfl rfl ?_
          refine wi_iload (i := 4) (e := h 238 100) (nx := 51) (r1 := 0) (r2 := 0) (r3 := 0) rfl rfl ?_
          refine wi_iconst (n := 1) (nx := 52) (r1 := 0) (r2 := 0) (r3 := 0) rfl ?_
          refine wr_sub (nx := 53) (r1 := 0) (r2 := 0) (r3 := 0) rfl (fun e13 (fe13 : e13 = (h 238 100) - 1) => ?_)
          refine wr_V (k0 := 236) (rest := [vi 31, .ref 238]) (as := [.ref 236, vi 2, vi e13]) (nx := 56) (r1 := 258) (r2 := 2) (r3 := 11) rfl rfl rfl (of_decide_eq_true rfl) rfl rfl (by decide) rfl rfl (of_decide_eq_true rfl) (of_decide_eq_true rfl) ?_
          refine wi_aload_n (i := 0) (x := 236) (nx := 1) (r1 := 0) (r2 := 0) (r3 := 0) rfl rfl ?_
          refine wr_gr (k0 := 236) (x := 238) (nx := 4) (r1 := 11) (r2 := 13) (r3 := 0) rfl rfl (by decide) rfl ⟨rfl, rfl⟩ rfl ?_
          refine wi_bipush (n := 74) (nx := 6) (r1 := 0) (r2 := 0) (r3 := 0) rfl (by decide) ?_
          refine wi_bipush (n := 6) (nx := 8) (r1 := 0) (r2 := 0) (r3 := 0) rfl (by decide) ?_
          refine wi_iload_n (i := 1) (e := 2) (nx := 9) (r1 := 0) (r2 := 0) (r3 := 0) rfl rfl ?_
          refine wr_mulL (12) (nx := 10) (r1 := 0) (r2 := 0) (r3 := 0) rfl (by decide) ?_
          refine wr_addL (86) (nx := 11) (r1 := 0) (r2 := 0) (r3 := 0) rfl (by decide) ?_
          refine wi_iload_n (i := 2) (e := e13) (nx := 12) (r1 := 0) (r2 := 0) (r3 := 0) rfl rfl ?_
          refine wr_add (nx := 13) (r1 := 0) (r2 := 0) (r3 := 0) rfl (fun e14 (fe14 : e14 = 86 + e13) => ?_)
          obtain ⟨i15, ei15⟩ : ∃ q : Nat, e14 = (q : Int) := ⟨(e14).toNat, by omega⟩
          have b16 := gi_b (lo := 0) (hi := 11) g 238 i15 (gi_rg 86 5 (fun _ => rfl) (by decide +kernel) (by omega))
          refine wr_ia (k0 := 238) (a := e14) (f := i15) (x := h 238 i15) (nx := 14) (r1 := 0) (r2 := 0) (r3 := 0) rfl (by decide) rfl (by omega) (by omega) (by decide) rfl ?_
          refine wi_ireturn (nx := 15) (r1 := 0) (r2 := 0) (r3 := 0) rfl rfl ?_
          refine wk_i ?_
          refine wr_add (nx := 57) (r1 := 0) (r2 := 0) (r3 := 0) rfl (fun e17 (fe17 : e17 = 31 + (h 238 i15)) => ?_)
          obtain ⟨i18, ei18⟩ : ∃ q : Nat, e17 = (q : Int) := ⟨(e17).toNat, by omega⟩
          have b19 := gi_b (lo := 0) (hi := 4) g 238 i18 (gi_rg 31 12 (fun _ => rfl) (by decide +kernel) (by omega))
          refine wr_ia (k0 := 238) (a := e17) (f := i18) (x := h 238 i18) (nx := 58) (r1 := 0) (r2 := 0) (r3 := 0) rfl (by decide) rfl (by omega) (by omega) (by decide) rfl ?_
          refine wi_aload_n (i := 0) (x := 236) (nx := 59) (r1 := 0) (r2 := 0) (r3 := 0) rfl rfl ?_
          refine wr_gr (k0 := 236) (x := 238) (nx := 62) (r1 := 11) (r2 := 13) (r3 := 0) rfl rfl (by decide) rfl ⟨rfl, rfl⟩ rfl ?_
          refine wi_bipush (n := 31) (nx := 64) (r1 := 0) (r2 := 0) (r3 := 0) rfl (by decide) ?_
          refine wi_iload_n (i := 1) (e := a0) (nx := 65) (r1 := 0) (r2 := 0) (r3 := 0) rfl rfl ?_
          refine wr_add (nx := 66) (r1 := 0) (r2 := 0) (r3 := 0) rfl (fun e20 (fe20 : e20 = 31 + a0) => ?_)
          obtain ⟨i21, ei21⟩ : ∃ q : Nat, e20 = (q : Int) := ⟨(e20).toNat, by omega⟩
          have b22 := gi_b (lo := 0) (hi := 4) g 238 i21 (gi_rg 31 12 (fun _ => rfl) (by decide +kernel) (by omega))
          refine wr_ia (k0 := 238) (a := e20) (f := i21) (x := h 238 i21) (nx := 67) (r1 := 0) (r2 := 0) (r3 := 0) rfl (by decide) rfl (by omega) (by omega) (by decide) rfl ?_
          refine wi_icmp (cd := .ne) (nx := 70) (r1 := 72) (r2 := 0) (r3 := 0) rfl (by omega) (by omega) (fun (q23 : (h 238 i18) ≠ (h 238 i21)) => ?_) (fun (q23 : ¬ ((h 238 i18) ≠ (h 238 i21))) => ?_)
          ·
            refine wi_iload_n (i := 2) (e := x1) (nx := 73) (r1 := 0) (r2 := 0) (r3 := 0) rfl rfl ?_
            refine wi_iconst (n := (-1)) (nx := 74) (r1 := 0) (r2 := 0) (r3 := 0) rfl ?_
            refine wi_icmp (cd := .eq) (nx := 77) (r1 := 91) (r2 := 0) (r3 := 0) rfl (by omega) (by omega) (fun (q24 : x1 = (-1)) => ?_) (fun (q24 : ¬ (x1 = (-1))) => ?_)
            ·
              refine wi_iload_n (i := 3) (e := 2) (nx := 92) (r1 := 0) (r2 := 0) (r3 := 0) rfl rfl ?_
              refine wi_istore_n (i := 2) (e := 2) (lo2 := [(2, vi 2), (4, vi (h 238 100)), (0, .ref 236), (1, vi a0), (3, vi 2)]) (nx := 93) (r1 := 0) (r2 := 0) (r3 := 0) rfl rfl ?_
              refine wr_iincL (i := 3) (n := 1) (v := 2) (3) ([(3, vi 3), (2, vi 2), (4, vi (h 238 100)), (0, .ref 236), (1, vi a0)]) (nx := 96) (r1 := 0) (r2 := 0) (r3 := 0) rfl rfl (by decide) rfl ?_
              refine wi_goto (nx := 99) (r1 := 4) (r2 := 0) (r3 := 0) rfl ?_
              refine wp.lo (lo := [(0, .ref 236), (1, vi a0), (2, vi 2), (3, vi 3)]) ⟨rfl, rfl, rfl, rfl, trivial⟩ rfl ?_
              have cn25 : roomL (h 238) 2 := ⟨(show (2 : Int) + 1 ≤ h 238 1 by omega), (show h 238 100 < h 238 17 by omega)⟩
              exact I3 2 3 h ⟨rfl, (show (-1 ≤ 2 ∧ 2 ≤ 3) ∧ (0 ≤ 3 ∧ 3 ≤ 4) by omega), (laX.yes 2 (by decide) (by omega) cn25)⟩ (show ((4 : Int) + 1 - 3).toNat < ((4 : Int) + 1 - x2).toNat by omega)
            ·
              refine wi_iload (i := 4) (e := h 238 100) (nx := 79) (r1 := 0) (r2 := 0) (r3 := 0) rfl rfl ?_
              refine wi_aload_n (i := 0) (x := 236) (nx := 80) (r1 := 0) (r2 := 0) (r3 := 0) rfl rfl ?_
              refine wr_gr (k0 := 236) (x := 238) (nx := 83) (r1 := 11) (r2 := 13) (r3 := 0) rfl rfl (by decide) rfl ⟨rfl, rfl⟩ rfl ?_
              refine wi_bipush (n := 98) (nx := 85) (r1 := 0) (r2 := 0) (r3 := 0) rfl (by decide) ?_
              refine wi_iload_n (i := 2) (e := x1) (nx := 86) (r1 := 0) (r2 := 0) (r3 := 0) rfl rfl ?_
              refine wr_add (nx := 87) (r1 := 0) (r2 := 0) (r3 := 0) rfl (fun e25 (fe25 : e25 = 98 + x1) => ?_)
              obtain ⟨i26, ei26⟩ : ∃ q : Nat, e25 = (q : Int) := ⟨(e25).toNat, by omega⟩
              have b27 := gi_b (lo := 0) (hi := 6) g 238 i26 (gi_rg 98 4 (fun _ => rfl) (by decide +kernel) (by omega))
              refine wr_ia (k0 := 238) (a := e25) (f := i26) (x := h 238 i26) (nx := 88) (r1 := 0) (r2 := 0) (r3 := 0) rfl (by decide) rfl (by omega) (by omega) (by decide) rfl ?_
              refine wi_icmp (cd := .ge) (nx := 91) (r1 := 93) (r2 := 0) (r3 := 0) rfl (by omega) (by omega) (fun (q28 : (h 238 i26) ≤ (h 238 100)) => ?_) (fun (q28 : ¬ ((h 238 i26) ≤ (h 238 100))) => ?_)
              ·
                refine wr_iincL (i := 3) (n := 1) (v := 2) (3) ([(3, vi 3), (4, vi (h 238 100)), (0, .ref 236), (1, vi a0), (2, vi x1)]) (nx := 96) (r1 := 0) (r2 := 0) (r3 := 0) rfl rfl (by decide) rfl ?_
                refine wi_goto (nx := 99) (r1 := 4) (r2 := 0) (r3 := 0) rfl ?_
                refine wp.lo (lo := [(0, .ref 236), (1, vi a0), (2, vi x1), (3, vi 3)]) ⟨rfl, rfl, rfl, rfl, trivial⟩ rfl ?_
                exact I3 x1 3 h ⟨rfl, (show (-1 ≤ x1 ∧ x1 ≤ 3) ∧ (0 ≤ 3 ∧ 3 ≤ 4) by omega), (laX.keep X3_0 (by omega))⟩ (show ((4 : Int) + 1 - 3).toNat < ((4 : Int) + 1 - x2).toNat by omega)
              ·
                refine wi_iload_n (i := 3) (e := 2) (nx := 92) (r1 := 0) (r2 := 0) (r3 := 0) rfl rfl ?_
                refine wi_istore_n (i := 2) (e := 2) (lo2 := [(2, vi 2), (4, vi (h 238 100)), (0, .ref 236), (1, vi a0), (3, vi 2)]) (nx := 93) (r1 := 0) (r2 := 0) (r3 := 0) rfl rfl ?_
                refine wr_iincL (i := 3) (n := 1) (v := 2) (3) ([(3, vi 3), (2, vi 2), (4, vi (h 238 100)), (0, .ref 236), (1, vi a0)]) (nx := 96) (r1 := 0) (r2 := 0) (r3 := 0) rfl rfl (by decide) rfl ?_
                refine wi_goto (nx := 99) (r1 := 4) (r2 := 0) (r3 := 0) rfl ?_
                refine wp.lo (lo := [(0, .ref 236), (1, vi a0), (2, vi 2), (3, vi 3)]) ⟨rfl, rfl, rfl, rfl, trivial⟩ rfl ?_
                have cn29 : roomL (h 238) 2 := ⟨(show (2 : Int) + 1 ≤ h 238 1 by omega), (show h 238 100 < h 238 17 by omega)⟩
                exact I3 2 3 h ⟨rfl, (show (-1 ≤ 2 ∧ 2 ≤ 3) ∧ (0 ≤ 3 ∧ 3 ≤ 4) by omega), (laX.yes 2 (by decide) (by omega) cn29)⟩ (show ((4 : Int) + 1 - 3).toNat < ((4 : Int) + 1 - x2).toNat by omega)
          ·
            refine wi_iload_n (i := 3) (e := 2) (nx := 71) (r1 := 0) (r2 := 0) (r3 := 0) rfl rfl ?_
            refine wi_ireturn (nx := 72) (r1 := 0) (r2 := 0) (r3 := 0) rfl rfl ?_
            have cn24 : roomL (h 238) 2 := ⟨(show (2 : Int) + 1 ≤ h 238 1 by omega), (show h 238 100 < h 238 17 by omega)⟩
            exact k 2 (by omega) (laX.yes 2 (by decide) (by omega) cn24)
    ·
      rw [q7]
      refine wr_V (k0 := 236) (rest := []) (as := [.ref 236, vi 3]) (nx := 19) (r1 := 277) (r2 := 1) (r3 := 11) rfl rfl rfl (of_decide_eq_true rfl) rfl rfl (by decide) rfl rfl (of_decide_eq_true rfl) (of_decide_eq_true rfl) ?_
      refine wi_aload_n (i := 0) (x := 236) (nx := 1) (r1 := 0) (r2 := 0) (r3 := 0) rfl rfl ?_
      refine wr_gr (k0 := 236) (x := 238) (nx := 4) (r1 := 11) (r2 := 13) (r3 := 0) rfl rfl (by decide) rfl ⟨rfl, rfl⟩ rfl ?_
      refine wi_bipush (n := 98) (nx := 6) (r1 := 0) (r2 := 0) (r3 := 0) rfl (by decide) ?_
      refine wi_iload_n (i := 1) (e := 3) (nx := 7) (r1 := 0) (r2 := 0) (r3 := 0) rfl rfl ?_
      refine wr_addL (101) (nx := 8) (r1 := 0) (r2 := 0) (r3 := 0) rfl (by decide) ?_
      have b8 := gi_b (lo := 0) (hi := 6) g 238 101 rfl
      refine wr_ia (k0 := 238) (a := 101) (f := 101) (x := h 238 101) (nx := 9) (r1 := 0) (r2 := 0) (r3 := 0) rfl (by decide) rfl (by omega) (by omega) (by decide) rfl ?_
      refine wi_aload_n (i := 0) (x := 236) (nx := 10) (r1 := 0) (r2 := 0) (r3 := 0) rfl rfl ?_
      refine wr_gr (k0 := 236) (x := 238) (nx := 13) (r1 := 11) (r2 := 13) (r3 := 0) rfl rfl (by decide) rfl ⟨rfl, rfl⟩ rfl ?_
      refine wi_bipush (n := 15) (nx := 15) (r1 := 0) (r2 := 0) (r3 := 0) rfl (by decide) ?_
      refine wi_iload_n (i := 1) (e := 3) (nx := 16) (r1 := 0) (r2 := 0) (r3 := 0) rfl rfl ?_
      refine wr_addL (18) (nx := 17) (r1 := 0) (r2 := 0) (r3 := 0) rfl (by decide) ?_
      have b9 := gi_b (lo := 0) (hi := 6) g 238 18 rfl
      refine wr_ia (k0 := 238) (a := 18) (f := 18) (x := h 238 18) (nx := 18) (r1 := 0) (r2 := 0) (r3 := 0) rfl (by decide) rfl (by omega) (by omega) (by decide) rfl ?_
      refine wi_icmp (cd := .ge) (nx := 21) (r1 := 25) (r2 := 0) (r3 := 0) rfl (by omega) (by omega) (fun (q10 : (h 238 18) ≤ (h 238 101)) => ?_) (fun (q10 : ¬ ((h 238 18) ≤ (h 238 101))) => ?_)
      ·
        refine wi_iconst (n := 0) (nx := 26) (r1 := 0) (r2 := 0) (r3 := 0) rfl ?_
        refine wi_zreturn (nx := 27) (r1 := 0) (r2 := 0) (r3 := 0) rfl rfl (by omega) ?_
        refine wk_i ?_
        refine wi_if (cd := .ne) (nx := 22) (r1 := 25) (r2 := 0) (r3 := 0) rfl (by omega) (fun (q11 : 0 ≠ 0) => by exfalso; omega) (fun (q11 : ¬ (0 ≠ 0)) => ?_)
        refine wi_goto (nx := 25) (r1 := 93) (r2 := 0) (r3 := 0) rfl ?_
        refine wr_iincL (i := 3) (n := 1) (v := 3) (4) ([(3, vi 4), (0, .ref 236), (1, vi a0), (2, vi x1)]) (nx := 96) (r1 := 0) (r2 := 0) (r3 := 0) rfl rfl (by decide) rfl ?_
        refine wi_goto (nx := 99) (r1 := 4) (r2 := 0) (r3 := 0) rfl ?_
        refine wp.lo (lo := [(0, .ref 236), (1, vi a0), (2, vi x1), (3, vi 4)]) ⟨rfl, rfl, rfl, rfl, trivial⟩ rfl ?_
        have cn12 : ¬ roomL (h 238) 3 := fun c => by
          have c2 : h 238 101 < h 238 18 := c.2
          omega
        exact I3 x1 4 h ⟨rfl, (show (-1 ≤ x1 ∧ x1 ≤ 3) ∧ (0 ≤ 4 ∧ 4 ≤ 4) by omega), (laX.no X3_0 (by omega) 3 (by omega) cn12)⟩ (show ((4 : Int) + 1 - 4).toNat < ((4 : Int) + 1 - x2).toNat by omega)
      ·
        refine wi_iconst (n := 1) (nx := 22) (r1 := 0) (r2 := 0) (r3 := 0) rfl ?_
        refine wi_goto (nx := 25) (r1 := 26) (r2 := 0) (r3 := 0) rfl ?_
        refine wi_zreturn (nx := 27) (r1 := 0) (r2 := 0) (r3 := 0) rfl rfl (by omega) ?_
        refine wk_i ?_
        refine wi_if (cd := .ne) (nx := 22) (r1 := 25) (r2 := 0) (r3 := 0) rfl (by omega) (fun (q11 : 1 ≠ 0) => ?_) (fun (q11 : ¬ (1 ≠ 0)) => by exfalso; omega)
        refine wi_aload_n (i := 0) (x := 236) (nx := 26) (r1 := 0) (r2 := 0) (r3 := 0) rfl rfl ?_
        refine wr_gr (k0 := 236) (x := 238) (nx := 29) (r1 := 11) (r2 := 13) (r3 := 0) rfl rfl (by decide) rfl ⟨rfl, rfl⟩ rfl ?_
        refine wi_bipush (n := 98) (nx := 31) (r1 := 0) (r2 := 0) (r3 := 0) rfl (by decide) ?_
        refine wi_iload_n (i := 3) (e := 3) (nx := 32) (r1 := 0) (r2 := 0) (r3 := 0) rfl rfl ?_
        refine wr_addL (101) (nx := 33) (r1 := 0) (r2 := 0) (r3 := 0) rfl (by decide) ?_
        refine wr_ia (k0 := 238) (a := 101) (f := 101) (x := h 238 101) (nx := 34) (r1 := 0) (r2 := 0) (r3 := 0) rfl (by decide) rfl (by omega) (by omega) (by decide) rfl ?_
        refine wi_istore (i := 4) (e := h 238 101) (lo2 := [(4, vi (h 238 101)), (0, .ref 236), (1, vi a0), (2, vi x1), (3, vi 3)]) (nx := 36) (r1 := 0) (r2 := 0) (r3 := 0) rfl rfl ?_
        refine wi_iload (i := 4) (e := h 238 101) (nx := 38) (r1 := 0) (r2 := 0) (r3 := 0) rfl rfl ?_
        refine wi_if (cd := .le) (nx := 41) (r1 := 72) (r2 := 0) (r3 := 0) rfl (by omega) (fun (q12 : (h 238 101) ≤ 0) => ?_) (fun (q12 : ¬ ((h 238 101) ≤ 0)) => ?_)
        ·
          refine wi_iload_n (i := 2) (e := x1) (nx := 73) (r1 := 0) (r2 := 0) (r3 := 0) rfl rfl ?_
          refine wi_iconst (n := (-1)) (nx := 74) (r1 := 0) (r2 := 0) (r3 := 0) rfl ?_
          refine wi_icmp (cd := .eq) (nx := 77) (r1 := 91) (r2 := 0) (r3 := 0) rfl (by omega) (by omega) (fun (q13 : x1 = (-1)) => ?_) (fun (q13 : ¬ (x1 = (-1))) => ?_)
          ·
            refine wi_iload_n (i := 3) (e := 3) (nx := 92) (r1 := 0) (r2 := 0) (r3 := 0) rfl rfl ?_
            refine wi_istore_n (i := 2) (e := 3) (lo2 := [(2, vi 3), (4, vi (h 238 101)), (0, .ref 236), (1, vi a0), (3, vi 3)]) (nx := 93) (r1 := 0) (r2 := 0) (r3 := 0) rfl rfl ?_
            refine wr_iincL (i := 3) (n := 1) (v := 3) (4) ([(3, vi 4), (2, vi 3), (4, vi (h 238 101)), (0, .ref 236), (1, vi a0)]) (nx := 96) (r1 := 0) (r2 := 0) (r3 := 0) rfl rfl (by decide) rfl ?_
            refine wi_goto (nx := 99) (r1 := 4) (r2 := 0) (r3 := 0) rfl ?_
            refine wp.lo (lo := [(0, .ref 236), (1, vi a0), (2, vi 3), (3, vi 4)]) ⟨rfl, rfl, rfl, rfl, trivial⟩ rfl ?_
            have cn14 : roomL (h 238) 3 := ⟨(show (3 : Int) + 1 ≤ h 238 1 by omega), (show h 238 101 < h 238 18 by omega)⟩
            exact I3 3 4 h ⟨rfl, (show (-1 ≤ 3 ∧ 3 ≤ 3) ∧ (0 ≤ 4 ∧ 4 ≤ 4) by omega), (laX.yes 3 (by decide) (by omega) cn14)⟩ (show ((4 : Int) + 1 - 4).toNat < ((4 : Int) + 1 - x2).toNat by omega)
          ·
            refine wi_iload (i := 4) (e := h 238 101) (nx := 79) (r1 := 0) (r2 := 0) (r3 := 0) rfl rfl ?_
            refine wi_aload_n (i := 0) (x := 236) (nx := 80) (r1 := 0) (r2 := 0) (r3 := 0) rfl rfl ?_
            refine wr_gr (k0 := 236) (x := 238) (nx := 83) (r1 := 11) (r2 := 13) (r3 := 0) rfl rfl (by decide) rfl ⟨rfl, rfl⟩ rfl ?_
            refine wi_bipush (n := 98) (nx := 85) (r1 := 0) (r2 := 0) (r3 := 0) rfl (by decide) ?_
            refine wi_iload_n (i := 2) (e := x1) (nx := 86) (r1 := 0) (r2 := 0) (r3 := 0) rfl rfl ?_
            refine wr_add (nx := 87) (r1 := 0) (r2 := 0) (r3 := 0) rfl (fun e14 (fe14 : e14 = 98 + x1) => ?_)
            obtain ⟨i15, ei15⟩ : ∃ q : Nat, e14 = (q : Int) := ⟨(e14).toNat, by omega⟩
            have b16 := gi_b (lo := 0) (hi := 6) g 238 i15 (gi_rg 98 4 (fun _ => rfl) (by decide +kernel) (by omega))
            refine wr_ia (k0 := 238) (a := e14) (f := i15) (x := h 238 i15) (nx := 88) (r1 := 0) (r2 := 0) (r3 := 0) rfl (by decide) rfl (by omega) (by omega) (by decide) rfl ?_
            refine wi_icmp (cd := .ge) (nx := 91) (r1 := 93) (r2 := 0) (r3 := 0) rfl (by omega) (by omega) (fun (q17 : (h 238 i15) ≤ (h 238 101)) => ?_) (fun (q17 : ¬ ((h 238 i15) ≤ (h 238 101))) => ?_)
            ·
              refine wr_iincL (i := 3) (n := 1) (v := 3) (4) ([(3, vi 4), (4, vi (h 238 101)), (0, .ref 236), (1, vi a0), (2, vi x1)]) (nx := 96) (r1 := 0) (r2 := 0) (r3 := 0) rfl rfl (by decide) rfl ?_
              refine wi_goto (nx := 99) (r1 := 4) (r2 := 0) (r3 := 0) rfl ?_
              refine wp.lo (lo := [(0, .ref 236), (1, vi a0), (2, vi x1), (3, vi 4)]) ⟨rfl, rfl, rfl, rfl, trivial⟩ rfl ?_
              exact I3 x1 4 h ⟨rfl, (show (-1 ≤ x1 ∧ x1 ≤ 3) ∧ (0 ≤ 4 ∧ 4 ≤ 4) by omega), (laX.keep X3_0 (by omega))⟩ (show ((4 : Int) + 1 - 4).toNat < ((4 : Int) + 1 - x2).toNat by omega)
            ·
              refine wi_iload_n (i := 3) (e := 3) (nx := 92) (r1 := 0) (r2 := 0) (r3 := 0) rfl rfl ?_
              refine wi_istore_n (i := 2) (e := 3) (lo2 := [(2, vi 3), (4, vi (h 238 101)), (0, .ref 236), (1, vi a0), (3, vi 3)]) (nx := 93) (r1 := 0) (r2 := 0) (r3 := 0) rfl rfl ?_
              refine wr_iincL (i := 3) (n := 1) (v := 3) (4) ([(3, vi 4), (2, vi 3), (4, vi (h 238 101)), (0, .ref 236), (1, vi a0)]) (nx := 96) (r1 := 0) (r2 := 0) (r3 := 0) rfl rfl (by decide) rfl ?_
              refine wi_goto (nx := 99) (r1 := 4) (r2 := 0) (r3 := 0) rfl ?_
              refine wp.lo (lo := [(0, .ref 236), (1, vi a0), (2, vi 3), (3, vi 4)]) ⟨rfl, rfl, rfl, rfl, trivial⟩ rfl ?_
              have cn18 : roomL (h 238) 3 := ⟨(show (3 : Int) + 1 ≤ h 238 1 by omega), (show h 238 101 < h 238 18 by omega)⟩
              exact I3 3 4 h ⟨rfl, (show (-1 ≤ 3 ∧ 3 ≤ 3) ∧ (0 ≤ 4 ∧ 4 ≤ 4) by omega), (laX.yes 3 (by decide) (by omega) cn18)⟩ (show ((4 : Int) + 1 - 4).toNat < ((4 : Int) + 1 - x2).toNat by omega)
        ·
          refine wi_aload_n (i := 0) (x := 236) (nx := 42) (r1 := 0) (r2 := 0) (r3 := 0) rfl rfl ?_
          refine wr_gr (k0 := 236) (x := 238) (nx := 45) (r1 := 11) (r2 := 13) (r3 := 0) rfl rfl (by decide) rfl ⟨rfl, rfl⟩ rfl ?_
          refine wi_bipush (n := 31) (nx := 47) (r1 := 0) (r2 := 0) (r3 := 0) rfl (by decide) ?_
          refine wi_aload_n (i := 0) (x := 236) (nx := 48) (r1 := 0) (r2 := 0) (r3 := 0) rfl rfl ?_
          refine wi_iload_n (i := 3) (e := 3) (nx := 49) (r1 := 0) (r2 := 0) (r3 := 0) rfl rfl ?_
          refine wi_iload (i := 4) (e := h 238 101) (nx := 51) (r1 := 0) (r2 := 0) (r3 := 0) rfl rfl ?_
          refine wi_iconst (n := 1) (nx := 52) (r1 := 0) (r2 := 0) (r3 := 0) rfl ?_
          refine wr_sub (nx := 53) (r1 := 0) (r2 := 0) (r3 := 0) rfl (fun e13 (fe13 : e13 = (h 238 101) - 1) => ?_)
          refine wr_V (k0 := 236) (rest := [vi 31, .ref 238]) (as := [.ref 236, vi 3, vi e13]) (nx := 56) (r1 := 258) (r2 := 2) (r3 := 11) rfl rfl rfl (of_decide_eq_true rfl) rfl rfl (by decide) rfl rfl (of_decide_eq_true rfl) (of_decide_eq_true rfl) ?_
          refine wi_aload_n (i := 0) (x := 236) (nx := 1) (r1 := 0) (r2 := 0) (r3 := 0) rfl rfl ?_
          refine wr_gr (k0 := 236) (x := 238) (nx := 4) (r1 := 11) (r2 := 13) (r3 := 0) rfl rfl (by decide) rfl ⟨rfl, rfl⟩ rfl ?_
          refine wi_bipush (n := 74) (nx := 6) (r1 := 0) (r2 := 0) (r3 := 0) rfl (by decide) ?_
          refine wi_bipush (n := 6) (nx := 8) (r1 := 0) (r2 := 0) (r3 := 0) rfl (by decide) ?_
          refine wi_iload_n (i := 1) (e := 3) (nx := 9) (r1 := 0) (r2 := 0) (r3 := 0) rfl rfl ?_
          refine wr_mulL (18) (nx := 10) (r1 := 0) (r2 := 0) (r3 := 0) rfl (by decide) ?_
          refine wr_addL (92) (nx := 11) (r1 := 0) (r2 := 0) (r3 := 0) rfl (by decide) ?_
          refine wi_iload_n (i := 2) (e := e13) (nx := 12) (r1 := 0) (r2 := 0) (r3 := 0) rfl rfl ?_
          refine wr_add (nx := 13) (r1 := 0) (r2 := 0) (r3 := 0) rfl (fun e14 (fe14 : e14 = 92 + e13) => ?_)
          obtain ⟨i15, ei15⟩ : ∃ q : Nat, e14 = (q : Int) := ⟨(e14).toNat, by omega⟩
          have b16 := gi_b (lo := 0) (hi := 11) g 238 i15 (gi_rg 92 5 (fun _ => rfl) (by decide +kernel) (by omega))
          refine wr_ia (k0 := 238) (a := e14) (f := i15) (x := h 238 i15) (nx := 14) (r1 := 0) (r2 := 0) (r3 := 0) rfl (by decide) rfl (by omega) (by omega) (by decide) rfl ?_
          refine wi_ireturn (nx := 15) (r1 := 0) (r2 := 0) (r3 := 0) rfl rfl ?_
          refine wk_i ?_
          refine wr_add (nx := 57) (r1 := 0) (r2 := 0) (r3 := 0) rfl (fun e17 (fe17 : e17 = 31 + (h 238 i15)) => ?_)
          obtain ⟨i18, ei18⟩ : ∃ q : Nat, e17 = (q : Int) := ⟨(e17).toNat, by omega⟩
          have b19 := gi_b (lo := 0) (hi := 4) g 238 i18 (gi_rg 31 12 (fun _ => rfl) (by decide +kernel) (by omega))
          refine wr_ia (k0 := 238) (a := e17) (f := i18) (x := h 238 i18) (nx := 58) (r1 := 0) (r2 := 0) (r3 := 0) rfl (by decide) rfl (by omega) (by omega) (by decide) rfl ?_
          refine wi_aload_n (i := 0) (x := 236) (nx := 59) (r1 := 0) (r2 := 0) (r3 := 0) rfl rfl ?_
          refine wr_gr (k0 := 236) (x := 238) (nx := 62) (r1 := 11) (r2 := 13) (r3 := 0) rfl rfl (by decide) rfl ⟨rfl, rfl⟩ rfl ?_
          refine wi_bipush (n := 31) (nx := 64) (r1 := 0) (r2 := 0) (r3 := 0) rfl (by decide) ?_
          refine wi_iload_n (i := 1) (e := a0) (nx := 65) (r1 := 0) (r2 := 0) (r3 := 0) rfl rfl ?_
          refine wr_add (nx := 66) (r1 := 0) (r2 := 0) (r3 := 0) rfl (fun e20 (fe20 : e20 = 31 + a0) => ?_)
          obtain ⟨i21, ei21⟩ : ∃ q : Nat, e20 = (q : Int) := ⟨(e20).toNat, by omega⟩
          have b22 := gi_b (lo := 0) (hi := 4) g 238 i21 (gi_rg 31 12 (fun _ => rfl) (by decide +kernel) (by omega))
          refine wr_ia (k0 := 238) (a := e20) (f := i21) (x := h 238 i21) (nx := 67) (r1 := 0) (r2 := 0) (r3 := 0) rfl (by decide) rfl (by omega) (by omega) (by decide) rfl ?_
          refine wi_icmp (cd := .ne) (nx := 70) (r1 := 72) (r2 := 0) (r3 := 0) rfl (by omega) (by omega) (fun (q23 : (h 238 i18) ≠ (h 238 i21)) => ?_) (fun (q23 : ¬ ((h 238 i18) ≠ (h 238 i21))) => ?_)
          ·
            refine wi_iload_n (i := 2) (e := x1) (nx := 73) (r1 := 0) (r2 := 0) (r3 := 0) rfl rfl ?_
            refine wi_iconst (n := (-1)) (nx := 74) (r1 := 0) (r2 := 0) (r3 := 0) rfl ?_
            refine wi_icmp (cd := .eq) (nx := 77) (r1 := 91) (r2 := 0) (r3 := 0) rfl (by omega) (by omega) (fun (q24 : x1 = (-1)) => ?_) (fun (q24 : ¬ (x1 = (-1))) => ?_)
            ·
              refine wi_iload_n (i := 3) (e := 3) (nx := 92) (r1 := 0) (r2 := 0) (r3 := 0) rfl rfl ?_
              refine wi_istore_n (i := 2) (e := 3) (lo2 := [(2, vi 3), (4, vi (h 238 101)), (0, .ref 236), (1, vi a0), (3, vi 3)]) (nx := 93) (r1 := 0) (r2 := 0) (r3 := 0) rfl rfl ?_
              refine wr_iincL (i := 3) (n := 1) (v := 3) (4) ([(3, vi 4), (2, vi 3), (4, vi (h 238 101)), (0, .ref 236), (1, vi a0)]) (nx := 96) (r1 := 0) (r2 := 0) (r3 := 0) rfl rfl (by decide) rfl ?_
              refine wi_goto (nx := 99) (r1 := 4) (r2 := 0) (r3 := 0) rfl ?_
              refine wp.lo (lo := [(0, .ref 236), (1, vi a0), (2, vi 3), (3, vi 4)]) ⟨rfl, rfl, rfl, rfl, trivial⟩ rfl ?_
              have cn25 : roomL (h 238) 3 := ⟨(show (3 : Int) + 1 ≤ h 238 1 by omega), (show h 238 101 < h 238 18 by omega)⟩
              exact I3 3 4 h ⟨rfl, (show (-1 ≤ 3 ∧ 3 ≤ 3) ∧ (0 ≤ 4 ∧ 4 ≤ 4) by omega), (laX.yes 3 (by decide) (by omega) cn25)⟩ (show ((4 : Int) + 1 - 4).toNat < ((4 : Int) + 1 - x2).toNat by omega)
            ·
              refine wi_iload (i := 4) (e := h 238 101) (nx := 79) (r1 := 0) (r2 := 0) (r3 := 0) rfl rfl ?_
              refine wi_aload_n (i := 0) (x := 236) (nx := 80) (r1 := 0) (r2 := 0) (r3 := 0) rfl rfl ?_
              refine wr_gr (k0 := 236) (x := 238) (nx := 83) (r1 := 11) (r2 := 13) (r3 := 0) rfl rfl (by decide) rfl ⟨rfl, rfl⟩ rfl ?_
              refine wi_bipush (n := 98) (nx := 85) (r1 := 0) (r2 := 0) (r3 := 0) rfl (by decide) ?_
              refine wi_iload_n (i := 2) (e := x1) (nx := 86) (r1 := 0) (r2 := 0) (r3 := 0) rfl rfl ?_
              refine wr_add (nx := 87) (r1 := 0) (r2 := 0) (r3 := 0) rfl (fun e25 (fe25 : e25 = 98 + x1) => ?_)
              obtain ⟨i26, ei26⟩ : ∃ q : Nat, e25 = (q : Int) := ⟨(e25).toNat, by omega⟩
              have b27 := gi_b (lo := 0) (hi := 6) g 238 i26 (gi_rg 98 4 (fun _ => rfl) (by decide +kernel) (by omega))
              refine wr_ia (k0 := 238) (a := e25) (f := i26) (x := h 238 i26) (nx := 88) (r1 := 0) (r2 := 0) (r3 := 0) rfl (by decide) rfl (by omega) (by omega) (by decide) rfl ?_
              refine wi_icmp (cd := .ge) (nx := 91) (r1 := 93) (r2 := 0) (r3 := 0) rfl (by omega) (by omega) (fun (q28 : (h 238 i26) ≤ (h 238 101)) => ?_) (fun (q28 : ¬ ((h 238 i26) ≤ (h 238 101))) => ?_)
              ·
                refine wr_iincL (i := 3) (n := 1) (v := 3) (4) ([(3, vi 4), (4, vi (h 238 101)), (0, .ref 236), (1, vi a0), (2, vi x1)]) (nx := 96) (r1 := 0) (r2 := 0) (r3 := 0) rfl rfl (by decide) rfl ?_
                refine wi_goto (nx := 99) (r1 := 4) (r2 := 0) (r3 := 0) rfl ?_
                refine wp.lo (lo := [(0, .ref 236), (1, vi a0), (2, vi x1), (3, vi 4)]) ⟨rfl, rfl, rfl, rfl, trivial⟩ rfl ?_
                exact I3 x1 4 h ⟨rfl, (show (-1 ≤ x1 ∧ x1 ≤ 3) ∧ (0 ≤ 4 ∧ 4 ≤ 4) by omega), (laX.keep X3_0 (by omega))⟩ (show ((4 : Int) + 1 - 4).toNat < ((4 : Int) + 1 - x2).toNat by omega)
              ·
                refine wi_iload_n (i := 3) (e := 3) (nx := 92) (r1 := 0) (r2 := 0) (r3 := 0) rfl rfl ?_
                refine wi_istore_n (i := 2) (e := 3) (lo2 := [(2, vi 3), (4, vi (h 238 101)), (0, .ref 236), (1, vi a0), (3, vi 3)]) (nx := 93) (r1 := 0) (r2 := 0) (r3 := 0) rfl rfl ?_
                refine wr_iincL (i := 3) (n := 1) (v := 3) (4) ([(3, vi 4), (2, vi 3), (4, vi (h 238 101)), (0, .ref 236), (1, vi a0)]) (nx := 96) (r1 := 0) (r2 := 0) (r3 := 0) rfl rfl (by decide) rfl ?_
                refine wi_goto (nx := 99) (r1 := 4) (r2 := 0) (r3 := 0) rfl ?_
                refine wp.lo (lo := [(0, .ref 236), (1, vi a0), (2, vi 3), (3, vi 4)]) ⟨rfl, rfl, rfl, rfl, trivial⟩ rfl ?_
                have cn29 : roomL (h 238) 3 := ⟨(show (3 : Int) + 1 ≤ h 238 1 by omega), (show h 238 101 < h 238 18 by omega)⟩
                exact I3 3 4 h ⟨rfl, (show (-1 ≤ 3 ∧ 3 ≤ 3) ∧ (0 ≤ 4 ∧ 4 ≤ 4) by omega), (laX.yes 3 (by decide) (by omega) cn29)⟩ (show ((4 : Int) + 1 - 4).toNat < ((4 : Int) + 1 - x2).toNat by omega)
          ·
            refine wi_iload_n (i := 3) (e := 3) (nx := 71) (r1 := 0) (r2 := 0) (r3 := 0) rfl rfl ?_
            refine wi_ireturn (nx := 72) (r1 := 0) (r2 := 0) (r3 := 0) rfl rfl ?_
            have cn24 : roomL (h 238) 3 := ⟨(show (3 : Int) + 1 ≤ h 238 1 by omega), (show h 238 101 < h 238 18 by omega)⟩
            exact k 3 (by omega) (laX.yes 3 (by decide) (by omega) cn24)
-- method 297: Model.laneFor(I)I
set_option maxHeartbeats 100000000 in
theorem ct_297_236 {L : Nat} {xs : Nat → Int32} {d b c : Nat} {h : hp} {cr : Nat → Nat → Option Nat} {Q : hp_Q} (hcr : CR cr)  (g : GI h) (a0 : Int) (q0_ : -2147483648 ≤ a0 ∧ a0 ≤ 2147483647)  (k : ∀ (h2 : hp) (z0 : Int) , GI h2 → FR [(236, 236, some (0, 0))] h h2 → (-1 ≤ z0 ∧ z0 ≤ 3) → Q (.inl (some (vi z0))) (hp_w h2 cr) b c) : wp (md_xa (L, xs)) (d + 2) 297 (0, [(0, .ref 236), (1, vi a0)], [], hp_w h cr, b, c) Q := by
  have F0 : FR [(236, 236, some (0, 0))] h h := FR.refl
  refine wi_aload_n (i := 0) (x := 236) (nx := 1) (r1 := 0) (r2 := 0) (r3 := 0) rfl rfl ?_
  refine wi_aload_n (i := 0) (x := 236) (nx := 2) (r1 := 0) (r2 := 0) (r3 := 0) rfl rfl ?_
  refine wi_iload_n (i := 1) (e := a0) (nx := 3) (r1 := 0) (r2 := 0) (r3 := 0) rfl rfl ?_
  refine wr_V (k0 := 236) (rest := [.ref 236]) (as := [.ref 236, vi a0]) (nx := 6) (r1 := 244) (r2 := 1) (r3 := 11) rfl rfl rfl (of_decide_eq_true rfl) rfl rfl (by decide) rfl rfl (of_decide_eq_true rfl) (of_decide_eq_true rfl) ?_
  refine wi_iload_n (i := 1) (e := a0) (nx := 1) (r1 := 0) (r2 := 0) (r3 := 0) rfl rfl ?_
  refine wi_i2l (nx := 2) (r1 := 0) (r2 := 0) (r3 := 0) rfl (by omega) ?_
  refine wi_lconst (n := 0) (e := 0) (nx := 3) (r1 := 0) (r2 := 0) (r3 := 0) rfl (by decide) ?_
  refine wi_aload_n (i := 0) (x := 236) (nx := 4) (r1 := 0) (r2 := 0) (r3 := 0) rfl rfl ?_
  refine wr_gr (k0 := 236) (x := 238) (nx := 7) (r1 := 11) (r2 := 13) (r3 := 0) rfl rfl (by decide) rfl ⟨rfl, rfl⟩ rfl ?_
  refine wi_iconst (n := 2) (nx := 8) (r1 := 0) (r2 := 0) (r3 := 0) rfl ?_
  have b1 := gi_b (lo := 0) (hi := 12) g 238 2 rfl
  refine wr_ia (k0 := 238) (a := 2) (f := 2) (x := h 238 2) (nx := 9) (r1 := 0) (r2 := 0) (r3 := 0) rfl (by decide) rfl (by omega) (by omega) (by decide) rfl ?_
  refine wi_iconst (n := 1) (nx := 10) (r1 := 0) (r2 := 0) (r3 := 0) rfl ?_
  refine wr_sub (nx := 11) (r1 := 0) (r2 := 0) (r3 := 0) rfl (fun e2 (fe2 : e2 = (h 238 2) - 1) => ?_)
  refine wi_i2l (nx := 12) (r1 := 0) (r2 := 0) (r3 := 0) rfl (by omega) ?_
  refine wi_S (rest := []) (as := [vl a0, vl 0, vl e2]) (nx := 15) (r1 := 210) (r2 := 19) (r3 := 0) rfl rfl rfl (of_decide_eq_true rfl) rfl rfl (of_decide_eq_true rfl) (of_decide_eq_true rfl) ?_
  refine wi_lload_n (i := 0) (e := a0) (nx := 1) (r1 := 0) (r2 := 0) (r3 := 0) rfl rfl ?_
  refine wi_lload_n (i := 2) (e := 0) (nx := 2) (r1 := 0) (r2 := 0) (r3 := 0) rfl rfl ?_
  refine wi_lcmp (a := a0) (e := 0) (nx := 3) (r1 := 0) (r2 := 0) (r3 := 0) rfl (by omega) (by omega) (fun r3 (fr3 : (r3 = -1 ∧ a0 < 0) ∨ (r3 = 0 ∧ a0 = 0) ∨ (r3 = 1 ∧ 0 < a0)) => ?_)
  refine wi_if (cd := .lt) (nx := 6) (r1 := 17) (r2 := 0) (r3 := 0) rfl (by omega) (fun (q4 : r3 < 0) => ?_) (fun (q4 : ¬ (r3 < 0)) => ?_)
  ·
    refine wi_iconst (n := 0) (nx := 18) (r1 := 0) (r2 := 0) (r3 := 0) rfl ?_
    refine wi_zreturn (nx := 19) (r1 := 0) (r2 := 0) (r3 := 0) rfl rfl (by omega) ?_
    refine wk_i ?_
    refine wi_zreturn (nx := 16) (r1 := 0) (r2 := 0) (r3 := 0) rfl rfl (by omega) ?_
    refine wk_i ?_
    refine wr_V (k0 := 236) (rest := []) (as := [.ref 236, vi 0]) (nx := 9) (r1 := 206) (r2 := 1) (r3 := 11) rfl rfl rfl (of_decide_eq_true rfl) rfl rfl (by decide) rfl rfl (of_decide_eq_true rfl) (of_decide_eq_true rfl) ?_
    refine wi_aload_n (i := 0) (x := 236) (nx := 1) (r1 := 0) (r2 := 0) (r3 := 0) rfl rfl ?_
    refine wi_iload_n (i := 1) (e := 0) (nx := 2) (r1 := 0) (r2 := 0) (r3 := 0) rfl rfl ?_
    refine wi_if (cd := .ne) (nx := 5) (r1 := 9) (r2 := 0) (r3 := 0) rfl (by omega) (fun (q5 : 0 ≠ 0) => by exfalso; omega) (fun (q5 : ¬ (0 ≠ 0)) => ?_)
    refine wi_iconst (n := 1) (nx := 6) (r1 := 0) (r2 := 0) (r3 := 0) rfl ?_
    refine wi_goto (nx := 9) (r1 := 10) (r2 := 0) (r3 := 0) rfl ?_
    refine wi_S (rest := [.ref 236]) (as := [vi 1]) (nx := 13) (r1 := 207) (r2 := 17) (r3 := 0) rfl rfl rfl (of_decide_eq_true rfl) rfl rfl (of_decide_eq_true rfl) (of_decide_eq_true rfl) ?_
    refine wi_iload_n (i := 0) (e := 1) (nx := 1) (r1 := 0) (r2 := 0) (r3 := 0) rfl rfl ?_
    refine wi_if (cd := .eq) (nx := 4) (r1 := 8) (r2 := 0) (r3 := 0) rfl (by omega) (fun (q6 : 1 = 0) => by exfalso; omega) (fun (q6 : ¬ (1 = 0)) => ?_)
    refine wi_iconst (n := 1) (nx := 5) (r1 := 0) (r2 := 0) (r3 := 0) rfl ?_
    refine wi_goto (nx := 8) (r1 := 9) (r2 := 0) (r3 := 0) rfl ?_
    refine wi_ireturn (nx := 10) (r1 := 0) (r2 := 0) (r3 := 0) rfl rfl ?_
    refine wk_i ?_
    refine wr_pf0 (k0 := 236) (x := 1) (bl := 0) (bh := 2) (nx := 16) (r1 := 11) (r2 := 0) (r3 := 0) rfl (by decide) rfl ⟨rfl, rfl⟩ rfl rfl g rfl (by omega) (fun h7 g7 w7 u7 => ?_)
    have F8 := F0.then rfl u7
    refine wi_iload_n (i := 1) (e := 0) (nx := 17) (r1 := 0) (r2 := 0) (r3 := 0) rfl rfl ?_
    refine wi_zreturn (nx := 18) (r1 := 0) (r2 := 0) (r3 := 0) rfl rfl (by omega) ?_
    refine wk_i ?_
    refine wi_if (cd := .eq) (nx := 12) (r1 := 20) (r2 := 0) (r3 := 0) rfl (by omega) (fun (q9 : 0 = 0) => ?_) (fun (q9 : ¬ (0 = 0)) => by exfalso; omega)
    refine wi_iconst (n := 0) (nx := 21) (r1 := 0) (r2 := 0) (r3 := 0) rfl ?_
    refine wi_ireturn (nx := 22) (r1 := 0) (r2 := 0) (r3 := 0) rfl rfl ?_
    exact k h7 0 g7 F8 (by omega)
  ·
    refine wi_lload_n (i := 0) (e := a0) (nx := 7) (r1 := 0) (r2 := 0) (r3 := 0) rfl rfl ?_
    refine wi_lload (i := 4) (e := e2) (nx := 9) (r1 := 0) (r2 := 0) (r3 := 0) rfl rfl ?_
    refine wi_lcmp (a := a0) (e := e2) (nx := 10) (r1 := 0) (r2 := 0) (r3 := 0) rfl (by omega) (by omega) (fun r5 (fr5 : (r5 = -1 ∧ a0 < e2) ∨ (r5 = 0 ∧ a0 = e2) ∨ (r5 = 1 ∧ e2 < a0)) => ?_)
    refine wi_if (cd := .gt) (nx := 13) (r1 := 17) (r2 := 0) (r3 := 0) rfl (by omega) (fun (q6 : 0 < r5) => ?_) (fun (q6 : ¬ (0 < r5)) => ?_)
    ·
      refine wi_iconst (n := 0) (nx := 18) (r1 := 0) (r2 := 0) (r3 := 0) rfl ?_
      refine wi_zreturn (nx := 19) (r1 := 0) (r2 := 0) (r3 := 0) rfl rfl (by omega) ?_
      refine wk_i ?_
      refine wi_zreturn (nx := 16) (r1 := 0) (r2 := 0) (r3 := 0) rfl rfl (by omega) ?_
      refine wk_i ?_
      refine wr_V (k0 := 236) (rest := []) (as := [.ref 236, vi 0]) (nx := 9) (r1 := 206) (r2 := 1) (r3 := 11) rfl rfl rfl (of_decide_eq_true rfl) rfl rfl (by decide) rfl rfl (of_decide_eq_true rfl) (of_decide_eq_true rfl) ?_
      refine wi_aload_n (i := 0) (x := 236) (nx := 1) (r1 := 0) (r2 := 0) (r3 := 0) rfl rfl ?_
      refine wi_iload_n (i := 1) (e := 0) (nx := 2) (r1 := 0) (r2 := 0) (r3 := 0) rfl rfl ?_
      refine wi_if (cd := .ne) (nx := 5) (r1 := 9) (r2 := 0) (r3 := 0) rfl (by omega) (fun (q7 : 0 ≠ 0) => by exfalso; omega) (fun (q7 : ¬ (0 ≠ 0)) => ?_)
      refine wi_iconst (n := 1) (nx := 6) (r1 := 0) (r2 := 0) (r3 := 0) rfl ?_
      refine wi_goto (nx := 9) (r1 := 10) (r2 := 0) (r3 := 0) rfl ?_
      refine wi_S (rest := [.ref 236]) (as := [vi 1]) (nx := 13) (r1 := 207) (r2 := 17) (r3 := 0) rfl rfl rfl (of_decide_eq_true rfl) rfl rfl (of_decide_eq_true rfl) (of_decide_eq_true rfl) ?_
      refine wi_iload_n (i := 0) (e := 1) (nx := 1) (r1 := 0) (r2 := 0) (r3 := 0) rfl rfl ?_
      refine wi_if (cd := .eq) (nx := 4) (r1 := 8) (r2 := 0) (r3 := 0) rfl (by omega) (fun (q8 : 1 = 0) => by exfalso; omega) (fun (q8 : ¬ (1 = 0)) => ?_)
      refine wi_iconst (n := 1) (nx := 5) (r1 := 0) (r2 := 0) (r3 := 0) rfl ?_
      refine wi_goto (nx := 8) (r1 := 9) (r2 := 0) (r3 := 0) rfl ?_
      refine wi_ireturn (nx := 10) (r1 := 0) (r2 := 0) (r3 := 0) rfl rfl ?_
      refine wk_i ?_
      refine wr_pf0 (k0 := 236) (x := 1) (bl := 0) (bh := 2) (nx := 16) (r1 := 11) (r2 := 0) (r3 := 0) rfl (by decide) rfl ⟨rfl, rfl⟩ rfl rfl g rfl (by omega) (fun h9 g9 w9 u9 => ?_)
      have F10 := F0.then rfl u9
      refine wi_iload_n (i := 1) (e := 0) (nx := 17) (r1 := 0) (r2 := 0) (r3 := 0) rfl rfl ?_
      refine wi_zreturn (nx := 18) (r1 := 0) (r2 := 0) (r3 := 0) rfl rfl (by omega) ?_
      refine wk_i ?_
      refine wi_if (cd := .eq) (nx := 12) (r1 := 20) (r2 := 0) (r3 := 0) rfl (by omega) (fun (q11 : 0 = 0) => ?_) (fun (q11 : ¬ (0 = 0)) => by exfalso; omega)
      refine wi_iconst (n := 0) (nx := 21) (r1 := 0) (r2 := 0) (r3 := 0) rfl ?_
      refine wi_ireturn (nx := 22) (r1 := 0) (r2 := 0) (r3 := 0) rfl rfl ?_
      exact k h9 0 g9 F10 (by omega)
    ·
      refine wi_iconst (n := 1) (nx := 14) (r1 := 0) (r2 := 0) (r3 := 0) rfl ?_
      refine wi_goto (nx := 17) (r1 := 18) (r2 := 0) (r3 := 0) rfl ?_
      refine wi_zreturn (nx := 19) (r1 := 0) (r2 := 0) (r3 := 0) rfl rfl (by omega) ?_
      refine wk_i ?_
      refine wi_zreturn (nx := 16) (r1 := 0) (r2 := 0) (r3 := 0) rfl rfl (by omega) ?_
      refine wk_i ?_
      refine wr_V (k0 := 236) (rest := []) (as := [.ref 236, vi 1]) (nx := 9) (r1 := 206) (r2 := 1) (r3 := 11) rfl rfl rfl (of_decide_eq_true rfl) rfl rfl (by decide) rfl rfl (of_decide_eq_true rfl) (of_decide_eq_true rfl) ?_
      refine wi_aload_n (i := 0) (x := 236) (nx := 1) (r1 := 0) (r2 := 0) (r3 := 0) rfl rfl ?_
      refine wi_iload_n (i := 1) (e := 1) (nx := 2) (r1 := 0) (r2 := 0) (r3 := 0) rfl rfl ?_
      refine wi_if (cd := .ne) (nx := 5) (r1 := 9) (r2 := 0) (r3 := 0) rfl (by omega) (fun (q7 : 1 ≠ 0) => ?_) (fun (q7 : ¬ (1 ≠ 0)) => by exfalso; omega)
      refine wi_iconst (n := 0) (nx := 10) (r1 := 0) (r2 := 0) (r3 := 0) rfl ?_
      refine wi_S (rest := [.ref 236]) (as := [vi 0]) (nx := 13) (r1 := 207) (r2 := 17) (r3 := 0) rfl rfl rfl (of_decide_eq_true rfl) rfl rfl (of_decide_eq_true rfl) (of_decide_eq_true rfl) ?_
      refine wi_iload_n (i := 0) (e := 0) (nx := 1) (r1 := 0) (r2 := 0) (r3 := 0) rfl rfl ?_
      refine wi_if (cd := .eq) (nx := 4) (r1 := 8) (r2 := 0) (r3 := 0) rfl (by omega) (fun (q8 : 0 = 0) => ?_) (fun (q8 : ¬ (0 = 0)) => by exfalso; omega)
      refine wi_iconst (n := 0) (nx := 9) (r1 := 0) (r2 := 0) (r3 := 0) rfl ?_
      refine wi_ireturn (nx := 10) (r1 := 0) (r2 := 0) (r3 := 0) rfl rfl ?_
      refine wk_i ?_
      refine wr_pf0 (k0 := 236) (x := 0) (bl := 0) (bh := 2) (nx := 16) (r1 := 11) (r2 := 0) (r3 := 0) rfl (by decide) rfl ⟨rfl, rfl⟩ rfl rfl g rfl (by omega) (fun h9 g9 w9 u9 => ?_)
      have F10 := F0.then rfl u9
      refine wi_iload_n (i := 1) (e := 1) (nx := 17) (r1 := 0) (r2 := 0) (r3 := 0) rfl rfl ?_
      refine wi_zreturn (nx := 18) (r1 := 0) (r2 := 0) (r3 := 0) rfl rfl (by omega) ?_
      refine wk_i ?_
      refine wi_if (cd := .eq) (nx := 12) (r1 := 20) (r2 := 0) (r3 := 0) rfl (by omega) (fun (q11 : 1 = 0) => by exfalso; omega) (fun (q11 : ¬ (1 = 0)) => ?_)
      refine wi_aload_n (i := 0) (x := 236) (nx := 13) (r1 := 0) (r2 := 0) (r3 := 0) rfl rfl ?_
      refine wi_iload_n (i := 1) (e := a0) (nx := 14) (r1 := 0) (r2 := 0) (r3 := 0) rfl rfl ?_
      refine wr_V (k0 := 236) (rest := []) (as := [.ref 236, vi a0]) (nx := 17) (r1 := 290) (r2 := 1) (r3 := 11) rfl rfl rfl (of_decide_eq_true rfl) rfl rfl (by decide) rfl rfl (of_decide_eq_true rfl) (of_decide_eq_true rfl) ?_
      refine ct_290_236 hcr  g9 a0 (by omega)  (fun z13  (fz13 : -1 ≤ z13 ∧ z13 ≤ 3) y12_0 => ?_)
      refine wk_i ?_
      refine wi_goto (nx := 20) (r1 := 21) (r2 := 0) (r3 := 0) rfl ?_
      refine wi_ireturn (nx := 22) (r1 := 0) (r2 := 0) (r3 := 0) rfl rfl ?_
      exact k h9 z13 g9 F10 (by omega)
-- method 256: Model.laneLength(I)I
set_option maxHeartbeats 100000000 in
theorem ct_256_236 {L : Nat} {xs : Nat → Int32} {d b c : Nat} {h : hp} {cr : Nat → Nat → Option Nat} {Q : hp_Q} (hcr : CR cr)  (g : GI h) (a0 : Int) (q0_ : -2147483648 ≤ a0 ∧ a0 ≤ 2147483647)  (k : ∀ (h2 : hp) (z0 : Int) , GI h2 → FR [(236, 236, some (0, 0))] h h2 → (0 ≤ z0 ∧ z0 ≤ 6) → Q (.inl (some (vi z0))) (hp_w h2 cr) b c) : wp (md_xa (L, xs)) (d + 2) 256 (0, [(0, .ref 236), (1, vi a0)], [], hp_w h cr, b, c) Q := by
  have F0 : FR [(236, 236, some (0, 0))] h h := FR.refl
  refine wi_aload_n (i := 0) (x := 236) (nx := 1) (r1 := 0) (r2 := 0) (r3 := 0) rfl rfl ?_
  refine wi_aload_n (i := 0) (x := 236) (nx := 2) (r1 := 0) (r2 := 0) (r3 := 0) rfl rfl ?_
  refine wi_iload_n (i := 1) (e := a0) (nx := 3) (r1 := 0) (r2 := 0) (r3 := 0) rfl rfl ?_
  refine wr_V (k0 := 236) (rest := [.ref 236]) (as := [.ref 236, vi a0]) (nx := 6) (r1 := 242) (r2 := 1) (r3 := 11) rfl rfl rfl (of_decide_eq_true rfl) rfl rfl (by decide) rfl rfl (of_decide_eq_true rfl) (of_decide_eq_true rfl) ?_
  refine wi_iload_n (i := 1) (e := a0) (nx := 1) (r1 := 0) (r2 := 0) (r3 := 0) rfl rfl ?_
  refine wi_i2l (nx := 2) (r1 := 0) (r2 := 0) (r3 := 0) rfl (by omega) ?_
  refine wi_lconst (n := 0) (e := 0) (nx := 3) (r1 := 0) (r2 := 0) (r3 := 0) rfl (by decide) ?_
  refine wi_aload_n (i := 0) (x := 236) (nx := 4) (r1 := 0) (r2 := 0) (r3 := 0) rfl rfl ?_
  refine wr_gr (k0 := 236) (x := 238) (nx := 7) (r1 := 11) (r2 := 13) (r3 := 0) rfl rfl (by decide) rfl ⟨rfl, rfl⟩ rfl ?_
  refine wi_iconst (n := 1) (nx := 8) (r1 := 0) (r2 := 0) (r3 := 0) rfl ?_
  have b1 := gi_b (lo := 0) (hi := 4) g 238 1 rfl
  refine wr_ia (k0 := 238) (a := 1) (f := 1) (x := h 238 1) (nx := 9) (r1 := 0) (r2 := 0) (r3 := 0) rfl (by decide) rfl (by omega) (by omega) (by decide) rfl ?_
  refine wi_iconst (n := 1) (nx := 10) (r1 := 0) (r2 := 0) (r3 := 0) rfl ?_
  refine wr_sub (nx := 11) (r1 := 0) (r2 := 0) (r3 := 0) rfl (fun e2 (fe2 : e2 = (h 238 1) - 1) => ?_)
  refine wi_i2l (nx := 12) (r1 := 0) (r2 := 0) (r3 := 0) rfl (by omega) ?_
  refine wi_S (rest := []) (as := [vl a0, vl 0, vl e2]) (nx := 15) (r1 := 210) (r2 := 19) (r3 := 0) rfl rfl rfl (of_decide_eq_true rfl) rfl rfl (of_decide_eq_true rfl) (of_decide_eq_true rfl) ?_
  refine wi_lload_n (i := 0) (e := a0) (nx := 1) (r1 := 0) (r2 := 0) (r3 := 0) rfl rfl ?_
  refine wi_lload_n (i := 2) (e := 0) (nx := 2) (r1 := 0) (r2 := 0) (r3 := 0) rfl rfl ?_
  refine wi_lcmp (a := a0) (e := 0) (nx := 3) (r1 := 0) (r2 := 0) (r3 := 0) rfl (by omega) (by omega) (fun r3 (fr3 : (r3 = -1 ∧ a0 < 0) ∨ (r3 = 0 ∧ a0 = 0) ∨ (r3 = 1 ∧ 0 < a0)) => ?_)
  refine wi_if (cd := .lt) (nx := 6) (r1 := 17) (r2 := 0) (r3 := 0) rfl (by omega) (fun (q4 : r3 < 0) => ?_) (fun (q4 : ¬ (r3 < 0)) => ?_)
  ·
    refine wi_iconst (n := 0) (nx := 18) (r1 := 0) (r2 := 0) (r3 := 0) rfl ?_
    refine wi_zreturn (nx := 19) (r1 := 0) (r2 := 0) (r3 := 0) rfl rfl (by omega) ?_
    refine wk_i ?_
    refine wi_zreturn (nx := 16) (r1 := 0) (r2 := 0) (r3 := 0) rfl rfl (by omega) ?_
    refine wk_i ?_
    refine wr_V (k0 := 236) (rest := []) (as := [.ref 236, vi 0]) (nx := 9) (r1 := 206) (r2 := 1) (r3 := 11) rfl rfl rfl (of_decide_eq_true rfl) rfl rfl (by decide) rfl rfl (of_decide_eq_true rfl) (of_decide_eq_true rfl) ?_
    refine wi_aload_n (i := 0) (x := 236) (nx := 1) (r1 := 0) (r2 := 0) (r3 := 0) rfl rfl ?_
    refine wi_iload_n (i := 1) (e := 0) (nx := 2) (r1 := 0) (r2 := 0) (r3 := 0) rfl rfl ?_
    refine wi_if (cd := .ne) (nx := 5) (r1 := 9) (r2 := 0) (r3 := 0) rfl (by omega) (fun (q5 : 0 ≠ 0) => by exfalso; omega) (fun (q5 : ¬ (0 ≠ 0)) => ?_)
    refine wi_iconst (n := 1) (nx := 6) (r1 := 0) (r2 := 0) (r3 := 0) rfl ?_
    refine wi_goto (nx := 9) (r1 := 10) (r2 := 0) (r3 := 0) rfl ?_
    refine wi_S (rest := [.ref 236]) (as := [vi 1]) (nx := 13) (r1 := 207) (r2 := 17) (r3 := 0) rfl rfl rfl (of_decide_eq_true rfl) rfl rfl (of_decide_eq_true rfl) (of_decide_eq_true rfl) ?_
    refine wi_iload_n (i := 0) (e := 1) (nx := 1) (r1 := 0) (r2 := 0) (r3 := 0) rfl rfl ?_
    refine wi_if (cd := .eq) (nx := 4) (r1 := 8) (r2 := 0) (r3 := 0) rfl (by omega) (fun (q6 : 1 = 0) => by exfalso; omega) (fun (q6 : ¬ (1 = 0)) => ?_)
    refine wi_iconst (n := 1) (nx := 5) (r1 := 0) (r2 := 0) (r3 := 0) rfl ?_
    refine wi_goto (nx := 8) (r1 := 9) (r2 := 0) (r3 := 0) rfl ?_
    refine wi_ireturn (nx := 10) (r1 := 0) (r2 := 0) (r3 := 0) rfl rfl ?_
    refine wk_i ?_
    refine wr_pf0 (k0 := 236) (x := 1) (bl := 0) (bh := 2) (nx := 16) (r1 := 11) (r2 := 0) (r3 := 0) rfl (by decide) rfl ⟨rfl, rfl⟩ rfl rfl g rfl (by omega) (fun h7 g7 w7 u7 => ?_)
    have F8 := F0.then rfl u7
    refine wi_iload_n (i := 1) (e := 0) (nx := 17) (r1 := 0) (r2 := 0) (r3 := 0) rfl rfl ?_
    refine wi_zreturn (nx := 18) (r1 := 0) (r2 := 0) (r3 := 0) rfl rfl (by omega) ?_
    refine wk_i ?_
    refine wi_if (cd := .eq) (nx := 12) (r1 := 24) (r2 := 0) (r3 := 0) rfl (by omega) (fun (q9 : 0 = 0) => ?_) (fun (q9 : ¬ (0 = 0)) => by exfalso; omega)
    refine wi_iconst (n := 0) (nx := 25) (r1 := 0) (r2 := 0) (r3 := 0) rfl ?_
    refine wi_ireturn (nx := 26) (r1 := 0) (r2 := 0) (r3 := 0) rfl rfl ?_
    exact k h7 0 g7 F8 (by omega)
  ·
    refine wi_lload_n (i := 0) (e := a0) (nx := 7) (r1 := 0) (r2 := 0) (r3 := 0) rfl rfl ?_
    refine wi_lload (i := 4) (e := e2) (nx := 9) (r1 := 0) (r2 := 0) (r3 := 0) rfl rfl ?_
    refine wi_lcmp (a := a0) (e := e2) (nx := 10) (r1 := 0) (r2 := 0) (r3 := 0) rfl (by omega) (by omega) (fun r5 (fr5 : (r5 = -1 ∧ a0 < e2) ∨ (r5 = 0 ∧ a0 = e2) ∨ (r5 = 1 ∧ e2 < a0)) => ?_)
    refine wi_if (cd := .gt) (nx := 13) (r1 := 17) (r2 := 0) (r3 := 0) rfl (by omega) (fun (q6 : 0 < r5) => ?_) (fun (q6 : ¬ (0 < r5)) => ?_)
    ·
      refine wi_iconst (n := 0) (nx := 18) (r1 := 0) (r2 := 0) (r3 := 0) rfl ?_
      refine wi_zreturn (nx := 19) (r1 := 0) (r2 := 0) (r3 := 0) rfl rfl (by omega) ?_
      refine wk_i ?_
      refine wi_zreturn (nx := 16) (r1 := 0) (r2 := 0) (r3 := 0) rfl rfl (by omega) ?_
      refine wk_i ?_
      refine wr_V (k0 := 236) (rest := []) (as := [.ref 236, vi 0]) (nx := 9) (r1 := 206) (r2 := 1) (r3 := 11) rfl rfl rfl (of_decide_eq_true rfl) rfl rfl (by decide) rfl rfl (of_decide_eq_true rfl) (of_decide_eq_true rfl) ?_
      refine wi_aload_n (i := 0) (x := 236) (nx := 1) (r1 := 0) (r2 := 0) (r3 := 0) rfl rfl ?_
      refine wi_iload_n (i := 1) (e := 0) (nx := 2) (r1 := 0) (r2 := 0) (r3 := 0) rfl rfl ?_
      refine wi_if (cd := .ne) (nx := 5) (r1 := 9) (r2 := 0) (r3 := 0) rfl (by omega) (fun (q7 : 0 ≠ 0) => by exfalso; omega) (fun (q7 : ¬ (0 ≠ 0)) => ?_)
      refine wi_iconst (n := 1) (nx := 6) (r1 := 0) (r2 := 0) (r3 := 0) rfl ?_
      refine wi_goto (nx := 9) (r1 := 10) (r2 := 0) (r3 := 0) rfl ?_
      refine wi_S (rest := [.ref 236]) (as := [vi 1]) (nx := 13) (r1 := 207) (r2 := 17) (r3 := 0) rfl rfl rfl (of_decide_eq_true rfl) rfl rfl (of_decide_eq_true rfl) (of_decide_eq_true rfl) ?_
      refine wi_iload_n (i := 0) (e := 1) (nx := 1) (r1 := 0) (r2 := 0) (r3 := 0) rfl rfl ?_
      refine wi_if (cd := .eq) (nx := 4) (r1 := 8) (r2 := 0) (r3 := 0) rfl (by omega) (fun (q8 : 1 = 0) => by exfalso; omega) (fun (q8 : ¬ (1 = 0)) => ?_)
      refine wi_iconst (n := 1) (nx := 5) (r1 := 0) (r2 := 0) (r3 := 0) rfl ?_
      refine wi_goto (nx := 8) (r1 := 9) (r2 := 0) (r3 := 0) rfl ?_
      refine wi_ireturn (nx := 10) (r1 := 0) (r2 := 0) (r3 := 0) rfl rfl ?_
      refine wk_i ?_
      refine wr_pf0 (k0 := 236) (x := 1) (bl := 0) (bh := 2) (nx := 16) (r1 := 11) (r2 := 0) (r3 := 0) rfl (by decide) rfl ⟨rfl, rfl⟩ rfl rfl g rfl (by omega) (fun h9 g9 w9 u9 => ?_)
      have F10 := F0.then rfl u9
      refine wi_iload_n (i := 1) (e := 0) (nx := 17) (r1 := 0) (r2 := 0) (r3 := 0) rfl rfl ?_
      refine wi_zreturn (nx := 18) (r1 := 0) (r2 := 0) (r3 := 0) rfl rfl (by omega) ?_
      refine wk_i ?_
      refine wi_if (cd := .eq) (nx := 12) (r1 := 24) (r2 := 0) (r3 := 0) rfl (by omega) (fun (q11 : 0 = 0) => ?_) (fun (q11 : ¬ (0 = 0)) => by exfalso; omega)
      refine wi_iconst (n := 0) (nx := 25) (r1 := 0) (r2 := 0) (r3 := 0) rfl ?_
      refine wi_ireturn (nx := 26) (r1 := 0) (r2 := 0) (r3 := 0) rfl rfl ?_
      exact k h9 0 g9 F10 (by omega)
    ·
      refine wi_iconst (n := 1) (nx := 14) (r1 := 0) (r2 := 0) (r3 := 0) rfl ?_
      refine wi_goto (nx := 17) (r1 := 18) (r2 := 0) (r3 := 0) rfl ?_
      refine wi_zreturn (nx := 19) (r1 := 0) (r2 := 0) (r3 := 0) rfl rfl (by omega) ?_
      refine wk_i ?_
      refine wi_zreturn (nx := 16) (r1 := 0) (r2 := 0) (r3 := 0) rfl rfl (by omega) ?_
      refine wk_i ?_
      refine wr_V (k0 := 236) (rest := []) (as := [.ref 236, vi 1]) (nx := 9) (r1 := 206) (r2 := 1) (r3 := 11) rfl rfl rfl (of_decide_eq_true rfl) rfl rfl (by decide) rfl rfl (of_decide_eq_true rfl) (of_decide_eq_true rfl) ?_
      refine wi_aload_n (i := 0) (x := 236) (nx := 1) (r1 := 0) (r2 := 0) (r3 := 0) rfl rfl ?_
      refine wi_iload_n (i := 1) (e := 1) (nx := 2) (r1 := 0) (r2 := 0) (r3 := 0) rfl rfl ?_
      refine wi_if (cd := .ne) (nx := 5) (r1 := 9) (r2 := 0) (r3 := 0) rfl (by omega) (fun (q7 : 1 ≠ 0) => ?_) (fun (q7 : ¬ (1 ≠ 0)) => by exfalso; omega)
      refine wi_iconst (n := 0) (nx := 10) (r1 := 0) (r2 := 0) (r3 := 0) rfl ?_
      refine wi_S (rest := [.ref 236]) (as := [vi 0]) (nx := 13) (r1 := 207) (r2 := 17) (r3 := 0) rfl rfl rfl (of_decide_eq_true rfl) rfl rfl (of_decide_eq_true rfl) (of_decide_eq_true rfl) ?_
      refine wi_iload_n (i := 0) (e := 0) (nx := 1) (r1 := 0) (r2 := 0) (r3 := 0) rfl rfl ?_
      refine wi_if (cd := .eq) (nx := 4) (r1 := 8) (r2 := 0) (r3 := 0) rfl (by omega) (fun (q8 : 0 = 0) => ?_) (fun (q8 : ¬ (0 = 0)) => by exfalso; omega)
      refine wi_iconst (n := 0) (nx := 9) (r1 := 0) (r2 := 0) (r3 := 0) rfl ?_
      refine wi_ireturn (nx := 10) (r1 := 0) (r2 := 0) (r3 := 0) rfl rfl ?_
      refine wk_i ?_
      refine wr_pf0 (k0 := 236) (x := 0) (bl := 0) (bh := 2) (nx := 16) (r1 := 11) (r2 := 0) (r3 := 0) rfl (by decide) rfl ⟨rfl, rfl⟩ rfl rfl g rfl (by omega) (fun h9 g9 w9 u9 => ?_)
      have F10 := F0.then rfl u9
      refine wi_iload_n (i := 1) (e := 1) (nx := 17) (r1 := 0) (r2 := 0) (r3 := 0) rfl rfl ?_
      refine wi_zreturn (nx := 18) (r1 := 0) (r2 := 0) (r3 := 0) rfl rfl (by omega) ?_
      refine wk_i ?_
      refine wi_if (cd := .eq) (nx := 12) (r1 := 24) (r2 := 0) (r3 := 0) rfl (by omega) (fun (q11 : 1 = 0) => by exfalso; omega) (fun (q11 : ¬ (1 = 0)) => ?_)
      refine wi_aload_n (i := 0) (x := 236) (nx := 13) (r1 := 0) (r2 := 0) (r3 := 0) rfl rfl ?_
      refine wr_gr (k0 := 236) (x := 238) (nx := 16) (r1 := 11) (r2 := 13) (r3 := 0) rfl rfl (by decide) rfl ⟨rfl, rfl⟩ rfl ?_
      refine wi_bipush (n := 98) (nx := 18) (r1 := 0) (r2 := 0) (r3 := 0) rfl (by decide) ?_
      refine wi_iload_n (i := 1) (e := a0) (nx := 19) (r1 := 0) (r2 := 0) (r3 := 0) rfl rfl ?_
      refine wr_add (nx := 20) (r1 := 0) (r2 := 0) (r3 := 0) rfl (fun e12 (fe12 : e12 = 98 + a0) => ?_)
      obtain ⟨i13, ei13⟩ : ∃ q : Nat, e12 = (q : Int) := ⟨(e12).toNat, by omega⟩
      have b14 := gi_b (lo := 0) (hi := 6) g 238 i13 (gi_rg 98 4 (fun _ => rfl) (by decide +kernel) (by omega))
      refine wr_ia (k0 := 238) (a := e12) (f := i13) (x := h 238 i13) (nx := 21) (r1 := 0) (r2 := 0) (r3 := 0) rfl (by decide) rfl (by omega) (by omega) (by decide) (u9 238 i13 (fn_a (by omega) fn_0)) ?_
      refine wi_goto (nx := 24) (r1 := 25) (r2 := 0) (r3 := 0) rfl ?_
      refine wi_ireturn (nx := 26) (r1 := 0) (r2 := 0) (r3 := 0) rfl rfl ?_
      exact k h9 (h 238 i13) g9 F10 (by omega)
-- method 264: Model.late()I
set_option maxHeartbeats 100000000 in
theorem ct_264_236 {L : Nat} {xs : Nat → Int32} {d b c : Nat} {h : hp} {cr : Nat → Nat → Option Nat} {Q : hp_Q} (hcr : CR cr)  (g : GI h)    (k : ∀ (h2 : hp) (z0 : Int) , GI h2 → FR [(236, 236, some (0, 0))] h h2 → (-2147483648 ≤ z0 ∧ z0 ≤ 2147483647) → Q (.inl (some (vi z0))) (hp_w h2 cr) b c) : wp (md_xa (L, xs)) (d + 1) 264 (0, [(0, .ref 236)], [], hp_w h cr, b, c) Q := by
  have F0 : FR [(236, 236, some (0, 0))] h h := FR.refl
  refine wi_aload_n (i := 0) (x := 236) (nx := 1) (r1 := 0) (r2 := 0) (r3 := 0) rfl rfl ?_
  refine wi_iconst (n := 0) (nx := 2) (r1 := 0) (r2 := 0) (r3 := 0) rfl ?_
  refine wr_pf0 (k0 := 236) (x := 0) (bl := 0) (bh := 2) (nx := 5) (r1 := 11) (r2 := 0) (r3 := 0) rfl (by decide) rfl ⟨rfl, rfl⟩ rfl rfl g rfl (by omega) (fun h1 g1 w1 u1 => ?_)
  have F2 := F0.then rfl u1
  refine wi_iconst (n := 0) (nx := 6) (r1 := 0) (r2 := 0) (r3 := 0) rfl ?_
  refine wi_istore_n (i := 1) (e := 0) (lo2 := [(1, vi 0), (0, .ref 236)]) (nx := 7) (r1 := 0) (r2 := 0) (r3 := 0) rfl rfl ?_
  refine wi_iconst (n := 0) (nx := 8) (r1 := 0) (r2 := 0) (r3 := 0) rfl ?_
  refine wi_istore_n (i := 2) (e := 0) (lo2 := [(2, vi 0), (1, vi 0), (0, .ref 236)]) (nx := 9) (r1 := 0) (r2 := 0) (r3 := 0) rfl rfl ?_
  refine wp.lo (lo := [(0, .ref 236), (1, vi 0), (2, vi 0)]) ⟨rfl, rfl, rfl, trivial⟩ rfl ?_
  refine wl_2 (fun x3 x4 h5 => h1 = h5 ∧ ((-2147483648 ≤ x3 ∧ x3 ≤ 2147483647) ∧ (0 ≤ x4 ∧ x4 ≤ 12))) (fun x3 x4 h5 => ((12 : Int) + 1 - x4).toNat) (fun x3 x4 h5 => (9, [(0, .ref 236), (1, vi x3), (2, vi x4)], [], hp_w h5 cr, b, c)) ?_ 0 0 h1 ⟨rfl, (show (-2147483648 ≤ 0 ∧ 0 ≤ 2147483647) ∧ (0 ≤ 0 ∧ 0 ≤ 12) by omega)⟩
  intro x3 x4 h5 ⟨e5, f5⟩ I5
  subst e5
  refine wi_iload_n (i := 2) (e := x4) (nx := 10) (r1 := 0) (r2 := 0) (r3 := 0) rfl rfl ?_
  refine wi_aload_n (i := 0) (x := 236) (nx := 11) (r1 := 0) (r2 := 0) (r3 := 0) rfl rfl ?_
  refine wr_gr (k0 := 236) (x := 238) (nx := 14) (r1 := 11) (r2 := 13) (r3 := 0) rfl rfl (by decide) rfl ⟨rfl, rfl⟩ rfl ?_
  refine wi_bipush (n := 106) (nx := 16) (r1 := 0) (r2 := 0) (r3 := 0) rfl (by decide) ?_
  have b7 := gi_b (lo := 0) (hi := 12) g 238 106 rfl
  refine wr_ia (k0 := 238) (a := 106) (f := 106) (x := h 238 106) (nx := 17) (r1 := 0) (r2 := 0) (r3 := 0) rfl (by decide) rfl (by omega) (by omega) (by decide) (u1 238 106 rfl) ?_
  refine wi_icmp (cd := .ge) (nx := 20) (r1 := 57) (r2 := 0) (r3 := 0) rfl (by omega) (by omega) (fun (q8 : (h 238 106) ≤ x4) => ?_) (fun (q8 : ¬ ((h 238 106) ≤ x4)) => ?_)
  ·
    refine wi_iload_n (i := 1) (e := x3) (nx := 58) (r1 := 0) (r2 := 0) (r3 := 0) rfl rfl ?_
    refine wi_ireturn (nx := 59) (r1 := 0) (r2 := 0) (r3 := 0) rfl rfl ?_
    exact k h1 x3 g1 F2 (by omega)
  ·
    refine wi_iload_n (i := 1) (e := x3) (nx := 21) (r1 := 0) (r2 := 0) (r3 := 0) rfl rfl ?_
    refine wi_iload_n (i := 2) (e := x4) (nx := 22) (r1 := 0) (r2 := 0) (r3 := 0) rfl rfl ?_
    refine wi_aload_n (i := 0) (x := 236) (nx := 23) (r1 := 0) (r2 := 0) (r3 := 0) rfl rfl ?_
    refine wr_gr (k0 := 236) (x := 238) (nx := 26) (r1 := 11) (r2 := 13) (r3 := 0) rfl rfl (by decide) rfl ⟨rfl, rfl⟩ rfl ?_
    refine wi_bipush (n := 107) (nx := 28) (r1 := 0) (r2 := 0) (r3 := 0) rfl (by decide) ?_
    refine wi_iload_n (i := 2) (e := x4) (nx := 29) (r1 := 0) (r2 := 0) (r3 := 0) rfl rfl ?_
    refine wr_add (nx := 30) (r1 := 0) (r2 := 0) (r3 := 0) rfl (fun e9 (fe9 : e9 = 107 + x4) => ?_)
    obtain ⟨i10, ei10⟩ : ∃ q : Nat, e9 = (q : Int) := ⟨(e9).toNat, by omega⟩
    have b11 := gi_b (lo := 0) (hi := 11) g 238 i10 (gi_rg 107 12 (fun _ => rfl) (by decide +kernel) (by omega))
    refine wr_ia (k0 := 238) (a := e9) (f := i10) (x := h 238 i10) (nx := 31) (r1 := 0) (r2 := 0) (r3 := 0) rfl (by decide) rfl (by omega) (by omega) (by decide) (u1 238 i10 (fn_a (by omega) fn_0)) ?_
    refine wr_sub (nx := 32) (r1 := 0) (r2 := 0) (r3 := 0) rfl (fun e12 (fe12 : e12 = x4 - (h 238 i10)) => ?_)
    refine wi_aload_n (i := 0) (x := 236) (nx := 33) (r1 := 0) (r2 := 0) (r3 := 0) rfl rfl ?_
    refine wr_gr (k0 := 236) (x := 238) (nx := 36) (r1 := 11) (r2 := 13) (r3 := 0) rfl rfl (by decide) rfl ⟨rfl, rfl⟩ rfl ?_
    refine wi_iconst (n := 4) (nx := 37) (r1 := 0) (r2 := 0) (r3 := 0) rfl ?_
    have b13 := gi_b (lo := 0) (hi := 999) g 238 4 rfl
    refine wr_ia (k0 := 238) (a := 4) (f := 4) (x := h 238 4) (nx := 38) (r1 := 0) (r2 := 0) (r3 := 0) rfl (by decide) rfl (by omega) (by omega) (by decide) (u1 238 4 rfl) ?_
    refine wi_icmp (cd := .le) (nx := 41) (r1 := 45) (r2 := 0) (r3 := 0) rfl (by omega) (by omega) (fun (q14 : e12 ≤ (h 238 4)) => ?_) (fun (q14 : ¬ (e12 ≤ (h 238 4))) => ?_)
    ·
      refine wi_iconst (n := 0) (nx := 46) (r1 := 0) (r2 := 0) (r3 := 0) rfl ?_
      refine wi_S (rest := [vi x3]) (as := [vi 0]) (nx := 49) (r1 := 207) (r2 := 17) (r3 := 0) rfl rfl rfl (of_decide_eq_true rfl) rfl rfl (of_decide_eq_true rfl) (of_decide_eq_true rfl) ?_
      refine wi_iload_n (i := 0) (e := 0) (nx := 1) (r1 := 0) (r2 := 0) (r3 := 0) rfl rfl ?_
      refine wi_if (cd := .eq) (nx := 4) (r1 := 8) (r2 := 0) (r3 := 0) rfl (by omega) (fun (q15 : 0 = 0) => ?_) (fun (q15 : ¬ (0 = 0)) => by exfalso; omega)
      refine wi_iconst (n := 0) (nx := 9) (r1 := 0) (r2 := 0) (r3 := 0) rfl ?_
      refine wi_ireturn (nx := 10) (r1 := 0) (r2 := 0) (r3 := 0) rfl rfl ?_
      refine wk_i ?_
      refine wr_add (nx := 50) (r1 := 0) (r2 := 0) (r3 := 0) rfl (fun e16 (fe16 : e16 = x3 + 0) => ?_)
      refine wi_istore_n (i := 1) (e := e16) (lo2 := [(1, vi e16), (0, .ref 236), (2, vi x4)]) (nx := 51) (r1 := 0) (r2 := 0) (r3 := 0) rfl rfl ?_
      refine wr_iinc (i := 2) (n := 1) (v := x4) (fun e17 => [(2, vi e17), (1, vi e16), (0, .ref 236)]) (nx := 54) (r1 := 0) (r2 := 0) (r3 := 0) rfl rfl (fun _ => rfl) (fun e17 (fe17 : e17 = x4 + 1) => ?_)
      refine wi_goto (nx := 57) (r1 := 9) (r2 := 0) (r3 := 0) rfl ?_
      refine wp.lo (lo := [(0, .ref 236), (1, vi e16), (2, vi e17)]) ⟨rfl, rfl, rfl, trivial⟩ rfl ?_
      exact I5 e16 e17 h1 ⟨rfl, (show (-2147483648 ≤ e16 ∧ e16 ≤ 2147483647) ∧ (0 ≤ e17 ∧ e17 ≤ 12) by omega)⟩ (show ((12 : Int) + 1 - e17).toNat < ((12 : Int) + 1 - x4).toNat by omega)
    ·
      refine wi_iconst (n := 1) (nx := 42) (r1 := 0) (r2 := 0) (r3 := 0) rfl ?_
      refine wi_goto (nx := 45) (r1 := 46) (r2 := 0) (r3 := 0) rfl ?_
      refine wi_S (rest := [vi x3]) (as := [vi 1]) (nx := 49) (r1 := 207) (r2 := 17) (r3 := 0) rfl rfl rfl (of_decide_eq_true rfl) rfl rfl (of_decide_eq_true rfl) (of_decide_eq_true rfl) ?_
      refine wi_iload_n (i := 0) (e := 1) (nx := 1) (r1 := 0) (r2 := 0) (r3 := 0) rfl rfl ?_
      refine wi_if (cd := .eq) (nx := 4) (r1 := 8) (r2 := 0) (r3 := 0) rfl (by omega) (fun (q15 : 1 = 0) => by exfalso; omega) (fun (q15 : ¬ (1 = 0)) => ?_)
      refine wi_iconst (n := 1) (nx := 5) (r1 := 0) (r2 := 0) (r3 := 0) rfl ?_
      refine wi_goto (nx := 8) (r1 := 9) (r2 := 0) (r3 := 0) rfl ?_
      refine wi_ireturn (nx := 10) (r1 := 0) (r2 := 0) (r3 := 0) rfl rfl ?_
      refine wk_i ?_
      refine wr_addW (nx := 50) (r1 := 0) (r2 := 0) (r3 := 0) rfl (fun e16 (fe16 : -2147483648 ≤ e16 ∧ e16 ≤ 2147483647) => ?_)
      refine wi_istore_n (i := 1) (e := e16) (lo2 := [(1, vi e16), (0, .ref 236), (2, vi x4)]) (nx := 51) (r1 := 0) (r2 := 0) (r3 := 0) rfl rfl ?_
      refine wr_iinc (i := 2) (n := 1) (v := x4) (fun e17 => [(2, vi e17), (1, vi e16), (0, .ref 236)]) (nx := 54) (r1 := 0) (r2 := 0) (r3 := 0) rfl rfl (fun _ => rfl) (fun e17 (fe17 : e17 = x4 + 1) => ?_)
      refine wi_goto (nx := 57) (r1 := 9) (r2 := 0) (r3 := 0) rfl ?_
      refine wp.lo (lo := [(0, .ref 236), (1, vi e16), (2, vi e17)]) ⟨rfl, rfl, rfl, trivial⟩ rfl ?_
      exact I5 e16 e17 h1 ⟨rfl, (show (-2147483648 ≤ e16 ∧ e16 ≤ 2147483647) ∧ (0 ≤ e17 ∧ e17 ≤ 12) by omega)⟩ (show ((12 : Int) + 1 - e17).toNat < ((12 : Int) + 1 - x4).toNat by omega)
