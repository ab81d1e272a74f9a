-- method 290: Model.chosenFor(I)I
set_option maxRecDepth 100000 in
set_option maxHeartbeats 100000000 in
theorem ct_290_236 {L : Nat} {xs : Nat → Int32} {d b c : Nat} {h : hp} {cr : Nat → Nat → Option Nat} {Q : hp_Q} (hcr : CR cr)  (g : GI h) (a0 : Int) (q0_ : 0 ≤ a0 ∧ a0 ≤ 11)  (k : ∀ (z0 : Int), (-1 ≤ z0 ∧ z0 ≤ 3) → (laP (roomL (h 238)) z0) → Q (.inl (some (vi z0))) (hp_w h cr) b c) : wp (md_xa (L, xs)) (d + 1) 290 (0, [(0, .ref 236), (1, vi a0)], [], hp_w h cr, b, c) Q := by
  have F0 : FR [] h h := FR.refl
  refine wi_iconst (n := (-1)) (nx := 1) (r1 := 0) (r2 := 0) (r3 := 0) rfl ?_
  refine wi_istore_n (i := 2) (e := -1) (lo2 := [(2, vi (-1)), (0, .ref 236), (1, vi a0)]) (nx := 2) (r1 := 0) (r2 := 0) (r3 := 0) rfl rfl ?_
  refine wi_iconst (n := 0) (nx := 3) (r1 := 0) (r2 := 0) (r3 := 0) rfl ?_
  refine wi_istore_n (i := 3) (e := 0) (lo2 := [(3, vi 0), (2, vi (-1)), (0, .ref 236), (1, vi a0)]) (nx := 4) (r1 := 0) (r2 := 0) (r3 := 0) rfl rfl ?_
  refine wp.lo (lo := [(0, .ref 236), (1, vi a0), (2, vi (-1)), (3, vi 0)]) ⟨rfl, rfl, rfl, rfl, trivial⟩ rfl ?_
  refine wl_2 (fun x1 x2 h3 => h = h3 ∧ ((-1 ≤ x1 ∧ x1 ≤ 3) ∧ (0 ≤ x2 ∧ x2 ≤ 4)) ∧ (laX (roomL (h 238)) x1 x2)) (fun x1 x2 h3 => ((4 : Int) + 1 - x2).toNat) (fun x1 x2 h3 => (4, [(0, .ref 236), (1, vi a0), (2, vi x1), (3, vi x2)], [], hp_w h3 cr, b, c)) ?_ (-1) 0 h ⟨rfl, (show (-1 ≤ (-1) ∧ (-1) ≤ 3) ∧ (0 ≤ 0 ∧ 0 ≤ 4) by omega), laX.start⟩
  intro x1 x2 h3 ⟨e3, f3, X3_0⟩ I3
  subst e3
  refine wi_iload_n (i := 3) (e := x2) (nx := 5) (r1 := 0) (r2 := 0) (r3 := 0) rfl rfl ?_
  refine wi_aload_n (i := 0) (x := 236) (nx := 6) (r1 := 0) (r2 := 0) (r3 := 0) rfl rfl ?_
  refine wr_gr (k0 := 236) (x := 238) (nx := 9) (r1 := 11) (r2 := 13) (r3 := 0) rfl rfl (by decide) rfl ⟨rfl, rfl⟩ rfl ?_
  refine wi_iconst (n := 1) (nx := 10) (r1 := 0) (r2 := 0) (r3 := 0) rfl ?_
  have b5 := gi_b (lo := 0) (hi := 4) g 238 1 rfl
  refine wr_ia (k0 := 238) (a := 1) (f := 1) (x := h 238 1) (nx := 11) (r1 := 0) (r2 := 0) (r3 := 0) rfl (by decide) rfl (by omega) (by omega) (by decide) rfl ?_
  refine wi_icmp (cd := .ge) (nx := 14) (r1 := 99) (r2 := 0) (r3 := 0) rfl (by omega) (by omega) (fun (q6 : (h 238 1) ≤ x2) => ?_) (fun (q6 : ¬ ((h 238 1) ≤ x2)) => ?_)
  ·
    refine wi_iload_n (i := 2) (e := x1) (nx := 100) (r1 := 0) (r2 := 0) (r3 := 0) rfl rfl ?_
    refine wi_ireturn (nx := 101) (r1 := 0) (r2 := 0) (r3 := 0) rfl rfl ?_
    exact k x1 (by omega) (laX.done X3_0 (fun v hv c => by have c1 := c.1; omega))
  ·
    refine wi_aload_n (i := 0) (x := 236) (nx := 15) (r1 := 0) (r2 := 0) (r3 := 0) rfl rfl ?_
    refine wi_iload_n (i := 3) (e := x2) (nx := 16) (r1 := 0) (r2 := 0) (r3 := 0) rfl rfl ?_
    rcases (show x2 = 0 ∨ x2 = 1 ∨ x2 = 2 ∨ x2 = 3 by omega) with q7 | q7 | q7 | q7
    ·
      rw [q7]
      refine wr_V (k0 := 236) (rest := []) (as := [.ref 236, vi 0]) (nx := 19) (r1 := 277) (r2 := 1) (r3 := 11) rfl rfl rfl (of_decide_eq_true rfl) rfl rfl (by decide) rfl rfl (of_decide_eq_true rfl) (of_decide_eq_true rfl) ?_
      refine wi_aload_n (i := 0) (x := 236) (nx := 1) (r1 := 0) (r2 := 0) (r3 := 0) rfl rfl ?_
      refine wr_gr (k0 := 236) (x := 238) (nx := 4) (r1 := 11) (r2 := 13) (r3 := 0) rfl rfl (by decide) rfl ⟨rfl, rfl⟩ rfl ?_
      refine wi_bipush (n := 98) (nx := 6) (r1 := 0) (r2 := 0) (r3 := 0) rfl (by decide) ?_
      refine wi_iload_n (i := 1) (e := 0) (nx := 7) (r1 := 0) (r2 := 0) (r3 := 0) rfl rfl ?_
      refine wr_addL (98) (nx := 8) (r1 := 0) (r2 := 0) (r3 := 0) rfl (by decide) ?_
      have b8 := gi_b (lo := 0) (hi := 6) g 238 98 rfl
      refine wr_ia (k0 := 238) (a := 98) (f := 98) (x := h 238 98) (nx := 9) (r1 := 0) (r2 := 0) (r3 := 0) rfl (by decide) rfl (by omega) (by omega) (by decide) rfl ?_
      refine wi_aload_n (i := 0) (x := 236) (nx := 10) (r1 := 0) (r2 := 0) (r3 := 0) rfl rfl ?_
      refine wr_gr (k0 := 236) (x := 238) (nx := 13) (r1 := 11) (r2 := 13) (r3 := 0) rfl rfl (by decide) rfl ⟨rfl, rfl⟩ rfl ?_
      refine wi_bipush (n := 15) (nx := 15) (r1 := 0) (r2 := 0) (r3 := 0) rfl (by decide) ?_
      refine wi_iload_n (i := 1) (e := 0) (nx := 16) (r1 := 0) (r2 := 0) (r3 := 0) rfl rfl ?_
      refine wr_addL (15) (nx := 17) (r1 := 0) (r2 := 0) (r3 := 0) rfl (by decide) ?_
      have b9 := gi_b (lo := 0) (hi := 6) g 238 15 rfl
      refine wr_ia (k0 := 238) (a := 15) (f := 15) (x := h 238 15) (nx := 18) (r1 := 0) (r2 := 0) (r3 := 0) rfl (by decide) rfl (by omega) (by omega) (by decide) rfl ?_
      refine wi_icmp (cd := .ge) (nx := 21) (r1 := 25) (r2 := 0) (r3 := 0) rfl (by omega) (by omega) (fun (q10 : (h 238 15) ≤ (h 238 98)) => ?_) (fun (q10 : ¬ ((h 238 15) ≤ (h 238 98))) => ?_)
      ·
        refine wi_iconst (n := 0) (nx := 26) (r1 := 0) (r2 := 0) (r3 := 0) rfl ?_
        refine wi_zreturn (nx := 27) (r1 := 0) (r2 := 0) (r3 := 0) rfl rfl (by omega) ?_
        refine wk_i ?_
        refine wi_if (cd := .ne) (nx := 22) (r1 := 25) (r2 := 0) (r3 := 0) rfl (by omega) (fun (q11 : 0 ≠ 0) => by exfalso; omega) (fun (q11 : ¬ (0 ≠ 0)) => ?_)
        refine wi_goto (nx := 25) (r1 := 93) (r2 := 0) (r3 := 0) rfl ?_
        refine wr_iincL (i := 3) (n := 1) (v := 0) (1) ([(3, vi 1), (0, .ref 236), (1, vi a0), (2, vi x1)]) (nx := 96) (r1 := 0) (r2 := 0) (r3 := 0) rfl rfl (by decide) rfl ?_
        refine wi_goto (nx := 99) (r1 := 4) (r2 := 0) (r3 := 0) rfl ?_
        refine wp.lo (lo := [(0, .ref 236), (1, vi a0), (2, vi x1), (3, vi 1)]) ⟨rfl, rfl, rfl, rfl, trivial⟩ rfl ?_
        have cn12 : ¬ roomL (h 238) 0 := fun c => by
          have c2 : h 238 98 < h 238 15 := c.2
          omega
        exact I3 x1 1 h ⟨rfl, (show (-1 ≤ x1 ∧ x1 ≤ 3) ∧ (0 ≤ 1 ∧ 1 ≤ 4) by omega), (laX.no X3_0 (by omega) 0 (by omega) cn12)⟩ (show ((4 : Int) + 1 - 1).toNat < ((4 : Int) + 1 - x2).toNat by omega)
      ·
        refine wi_iconst (n := 1) (nx := 22) (r1 := 0) (r2 := 0) (r3 := 0) rfl ?_
        refine wi_goto (nx := 25) (r1 := 26) (r2 := 0) (r3 := 0) rfl ?_
        refine wi_zreturn (nx := 27) (r1 := 0) (r2 := 0) (r3 := 0) rfl rfl (by omega) ?_
        refine wk_i ?_
        refine wi_if (cd := .ne) (nx := 22) (r1 := 25) (r2 := 0) (r3 := 0) rfl (by omega) (fun (q11 : 1 ≠ 0) => ?_) (fun (q11 : ¬ (1 ≠ 0)) => by exfalso; omega)
        refine wi_aload_n (i := 0) (x := 236) (nx := 26) (r1 := 0) (r2 := 0) (r3 := 0) rfl rfl ?_
        refine wr_gr (k0 := 236) (x := 238) (nx := 29) (r1 := 11) (r2 := 13) (r3 := 0) rfl rfl (by decide) rfl ⟨rfl, rfl⟩ rfl ?_
        refine wi_bipush (n := 98) (nx := 31) (r1 := 0) (r2 := 0) (r3 := 0) rfl (by decide) ?_
        refine wi_iload_n (i := 3) (e := 0) (nx := 32) (r1 := 0) (r2 := 0) (r3 := 0) rfl rfl ?_
        refine wr_addL (98) (nx := 33) (r1 := 0) (r2 := 0) (r3 := 0) rfl (by decide) ?_
        refine wr_ia (k0 := 238) (a := 98) (f := 98) (x := h 238 98) (nx := 34) (r1 := 0) (r2 := 0) (r3 := 0) rfl (by decide) rfl (by omega) (by omega) (by decide) rfl ?_
        refine wi_istore (i := 4) (e := h 238 98) (lo2 := [(4, vi (h 238 98)), (0, .ref 236), (1, vi a0), (2, vi x1), (3, vi 0)]) (nx := 36) (r1 := 0) (r2 := 0) (r3 := 0) rfl rfl ?_
        refine wi_iload (i := 4) (e := h 238 98) (nx := 38) (r1 := 0) (r2 := 0) (r3 := 0) rfl rfl ?_
        refine wi_if (cd := .le) (nx := 41) (r1 := 72) (r2 := 0) (r3 := 0) rfl (by omega) (fun (q12 : (h 238 98) ≤ 0) => ?_) (fun (q12 : ¬ ((h 238 98) ≤ 0)) => ?_)
        ·
          refine wi_iload_n (i := 2) (e := x1) (nx := 73) (r1 := 0) (r2 := 0) (r3 := 0) rfl rfl ?_
          refine wi_iconst (n := (-1)) (nx := 74) (r1 := 0) (r2 := 0) (r3 := 0) rfl ?_
          refine wi_icmp (cd := .eq) (nx := 77) (r1 := 91) (r2 := 0) (r3 := 0) rfl (by omega) (by omega) (fun (q13 : x1 = (-1)) => ?_) (fun (q13 : ¬ (x1 = (-1))) => ?_)
          ·
            refine wi_iload_n (i := 3) (e := 0) (nx := 92) (r1 := 0) (r2 := 0) (r3 := 0) rfl rfl ?_
            refine wi_istore_n (i := 2) (e := 0) (lo2 := [(2, vi 0), (4, vi (h 238 98)), (0, .ref 236), (1, vi a0), (3, vi 0)]) (nx := 93) (r1 := 0) (r2 := 0) (r3 := 0) rfl rfl ?_
            refine wr_iincL (i := 3) (n := 1) (v := 0) (1) ([(3, vi 1), (2, vi 0), (4, vi (h 238 98)), (0, .ref 236), (1, vi a0)]) (nx := 96) (r1 := 0) (r2 := 0) (r3 := 0) rfl rfl (by decide) rfl ?_
            refine wi_goto (nx := 99) (r1 := 4) (r2 := 0) (r3 := 0) rfl ?_
            refine wp.lo (lo := [(0, .ref 236), (1, vi a0), (2, vi 0), (3, vi 1)]) ⟨rfl, rfl, rfl, rfl, trivial⟩ rfl ?_
            have cn14 : roomL (h 238) 0 := ⟨(show (0 : Int) + 1 ≤ h 238 1 by omega), (show h 238 98 < h 238 15 by omega)⟩
            exact I3 0 1 h ⟨rfl, (show (-1 ≤ 0 ∧ 0 ≤ 3) ∧ (0 ≤ 1 ∧ 1 ≤ 4) by omega), (laX.yes 0 (by decide) (by omega) cn14)⟩ (show ((4 : Int) + 1 - 1).toNat < ((4 : Int) + 1 - x2).toNat by omega)
          ·
            refine wi_iload (i := 4) (e := h 238 98) (nx := 79) (r1 := 0) (r2 := 0) (r3 := 0) rfl rfl ?_
            refine wi_aload_n (i := 0) (x := 236) (nx := 80) (r1 := 0) (r2 := 0) (r3 := 0) rfl rfl ?_
            refine wr_gr (k0 := 236) (x := 238) (nx := 83) (r1 := 11) (r2 := 13) (r3 := 0) rfl rfl (by decide) rfl ⟨rfl, rfl⟩ rfl ?_
            refine wi_bipush (n := 98) (nx := 85) (r1 := 0) (r2 := 0) (r3 := 0) rfl (by decide) ?_
            refine wi_iload_n (i := 2) (e := x1) (nx := 86) (r1 := 0) (r2 := 0) (r3 := 0) rfl rfl ?_
            refine wr_add (nx := 87) (r1 := 0) (r2 := 0) (r3 := 0) rfl (fun e14 (fe14 : e14 = 98 + x1) => ?_)
            obtain ⟨i15, ei15⟩ : ∃ q : Nat, e14 = (q : Int) := ⟨(e14).toNat, by omega⟩
            have b16 := gi_b (lo := 0) (hi := 6) g 238 i15 (gi_rg 98 4 (fun _ => rfl) (by decide +kernel) (by omega))
            refine wr_ia (k0 := 238) (a := e14) (f := i15) (x := h 238 i15) (nx := 88) (r1 := 0) (r2 := 0) (r3 := 0) rfl (by decide) rfl (by omega) (by omega) (by decide) rfl ?_
            refine wi_icmp (cd := .ge) (nx := 91) (r1 := 93) (r2 := 0) (r3 := 0) rfl (by omega) (by omega) (fun (q17 : (h 238 i15) ≤ (h 238 98)) => ?_) (fun (q17 : ¬ ((h 238 i15) ≤ (h 238 98))) => ?_)
            ·
              refine wr_iincL (i := 3) (n := 1) (v := 0) (1) ([(3, vi 1), (4, vi (h 238 98)), (0, .ref 236), (1, vi a0), (2, vi x1)]) (nx := 96) (r1 := 0) (r2 := 0) (r3 := 0) rfl rfl (by decide) rfl ?_
              refine wi_goto (nx := 99) (r1 := 4) (r2 := 0) (r3 := 0) rfl ?_
              refine wp.lo (lo := [(0, .ref 236), (1, vi a0), (2, vi x1), (3, vi 1)]) ⟨rfl, rfl, rfl, rfl, trivial⟩ rfl ?_
              exact I3 x1 1 h ⟨rfl, (show (-1 ≤ x1 ∧ x1 ≤ 3) ∧ (0 ≤ 1 ∧ 1 ≤ 4) by omega), (laX.keep X3_0 (by omega))⟩ (show ((4 : Int) + 1 - 1).toNat < ((4 : Int) + 1 - x2).toNat by omega)
            ·
              refine wi_iload_n (i := 3) (e := 0) (nx := 92) (r1 := 0) (r2 := 0) (r3 := 0) rfl rfl ?_
              refine wi_istore_n (i := 2) (e := 0) (lo2 := [(2, vi 0), (4, vi (h 238 98)), (0, .ref 236), (1, vi a0), (3, vi 0)]) (nx := 93) (r1 := 0) (r2 := 0) (r3 := 0) rfl rfl ?_
              refine wr_iincL (i := 3) (n := 1) (v := 0) (1) ([(3, vi 1), (2, vi 0), (4, vi (h 238 98)), (0, .ref 236), (1, vi a0)]) (nx := 96) (r1 := 0) (r2 := 0) (r3 := 0) rfl rfl (by decide) rfl ?_
              refine wi_goto (nx := 99) (r1 := 4) (r2 := 0) (r3 := 0) rfl ?_
              refine wp.lo (lo := [(0, .ref 236), (1, vi a0), (2, vi 0), (3, vi 1)]) ⟨rfl, rfl, rfl, rfl, trivial⟩ rfl ?_
              have cn18 : roomL (h 238) 0 := ⟨(show (0 : Int) + 1 ≤ h 238 1 by omega), (show h 238 98 < h 238 15 by omega)⟩
              exact I3 0 1 h ⟨rfl, (show (-1 ≤ 0 ∧ 0 ≤ 3) ∧ (0 ≤ 1 ∧ 1 ≤ 4) by omega), (laX.yes 0 (by decide) (by omega) cn18)⟩ (show ((4 : Int) + 1 - 1).toNat < ((4 : Int) + 1 - x2).toNat by omega)
        ·
          refine wi_aload_n (i := 0) (x := 236) (nx := 42) (r1 := 0) (r2 := 0) (r3 := 0) rfl rfl ?_
          refine wr_gr (k0 := 236) (x := 238) (nx := 45) (r1 := 11) (r2 := 13) (r3 := 0) rfl rfl (by decide) rfl ⟨rfl, rfl⟩ rfl ?_
          refine wi_bipush (n := 31) (nx := 47) (r1 := 0) (r2 := 0) (r3 := 0) rfl (by decide) ?_
          refine wi_aload_n (i := 0) (x := 236) (nx := 48) (r1 := 0) (r2 := 0) (r3 := 0) rfl rfl ?_
          refine wi_iload_n (i := 3) (e := 0) (nx := 49) (r1 := 0) (r2 := 0) (r3 := 0) rfl rfl ?_
          refine wi_iload (i := 4) (e := h 238 98) (nx := 51) (r1 := 0) (r2 := 0) (r3 := 0) rfl rfl ?_
          refine wi_iconst (n := 1) (nx := 52) (r1 := 0) (r2 := 0) (r3 := 0) rfl ?_
          refine wr_sub (nx := 53) (r1 := 0) (r2 := 0) (r3 := 0) rfl (fun e13 (fe13 : e13 = (h 238 98) - 1) => ?_)
          refine wr_V (k0 := 236) (rest := [vi 31, .ref 238]) (as := [.ref 236, vi 0, vi e13]) (nx := 56) (r1 := 258) (r2 := 2) (r3 := 11) rfl rfl rfl (of_decide_eq_true rfl) rfl rfl (by decide) rfl rfl (of_decide_eq_true rfl) (of_decide_eq_true rfl) ?_
          refine wi_aload_n (i := 0) (x := 236) (nx := 1) (r1 := 0) (r2 := 0) (r3 := 0) rfl rfl ?_
          refine wr_gr (k0 := 236) (x := 238) (nx := 4) (r1 := 11) (r2 := 13) (r3 := 0) rfl rfl (by decide) rfl ⟨rfl, rfl⟩ rfl ?_
          refine wi_bipush (n := 74) (nx := 6) (r1 := 0) (r2 := 0) (r3 := 0) rfl (by decide) ?_
          refine wi_bipush (n := 6) (nx := 8) (r1 := 0) (r2 := 0) (r3 := 0) rfl (by decide) ?_
          refine wi_iload_n (i := 1) (e := 0) (nx := 9) (r1 := 0) (r2 := 0) (r3 := 0) rfl rfl ?_
          refine wr_mulL (0) (nx := 10) (r1 := 0) (r2 := 0) (r3 := 0) rfl (by decide) ?_
          refine wr_addL (74) (nx := 11) (r1 := 0) (r2 := 0) (r3 := 0) rfl (by decide) ?_
          refine wi_iload_n (i := 2) (e := e13) (nx := 12) (r1 := 0) (r2 := 0) (r3 := 0) rfl rfl ?_
          refine wr_add (nx := 13) (r1 := 0) (r2 := 0) (r3 := 0) rfl (fun e14 (fe14 : e14 = 74 + e13) => ?_)
          obtain ⟨i15, ei15⟩ : ∃ q : Nat, e14 = (q : Int) := ⟨(e14).toNat, by omega⟩
          have b16 := gi_b (lo := 0) (hi := 11) g 238 i15 (gi_rg 74 5 (fun _ => rfl) (by decide +kernel) (by omega))
          refine wr_ia (k0 := 238) (a := e14) (f := i15) (x := h 238 i15) (nx := 14) (r1 := 0) (r2 := 0) (r3 := 0) rfl (by decide) rfl (by omega) (by omega) (by decide) rfl ?_
          refine wi_ireturn (nx := 15) (r1 := 0) (r2 := 0) (r3 := 0) rfl rfl ?_
          refine wk_i ?_
          refine wr_add (nx := 57) (r1 := 0) (r2 := 0) (r3 := 0) rfl (fun e17 (fe17 : e17 = 31 + (h 238 i15)) => ?_)
          obtain ⟨i18, ei18⟩ : ∃ q : Nat, e17 = (q : Int) := ⟨(e17).toNat, by omega⟩
          have b19 := gi_b (lo := 0) (hi := 4) g 238 i18 (gi_rg 31 12 (fun _ => rfl) (by decide +kernel) (by omega))
          refine wr_ia (k0 := 238) (a := e17) (f := i18) (x := h 238 i18) (nx := 58) (r1 := 0) (r2 := 0) (r3 := 0) rfl (by decide) rfl (by omega) (by omega) (by decide) rfl ?_
          refine wi_aload_n (i := 0) (x := 236) (nx := 59) (r1 := 0) (r2 := 0) (r3 := 0) rfl rfl ?_
          refine wr_gr (k0 := 236) (x := 238) (nx := 62) (r1 := 11) (r2 := 13) (r3 := 0) rfl rfl (by decide) rfl ⟨rfl, rfl⟩ rfl ?_
          refine wi_bipush (n := 31) (nx := 64) (r1 := 0) (r2 := 0) (r3 := 0) rfl (by decide) ?_
          refine wi_iload_n (i := 1) (e := a0) (nx := 65) (r1 := 0) (r2 := 0) (r3 := 0) rfl rfl ?_
          refine wr_add (nx := 66) (r1 := 0) (r2 := 0) (r3 := 0) rfl (fun e20 (fe20 : e20 = 31 + a0) => ?_)
          obtain ⟨i21, ei21⟩ : ∃ q : Nat, e20 = (q : Int) := ⟨(e20).toNat, by omega⟩
          have b22 := gi_b (lo := 0) (hi := 4) g 238 i21 (gi_rg 31 12 (fun _ => rfl) (by decide +kernel) (by omega))
          refine wr_ia (k0 := 238) (a := e20) (f := i21) (x := h 238 i21) (nx := 67) (r1 := 0) (r2 := 0) (r3 := 0) rfl (by decide) rfl (by omega) (by omega) (by decide) rfl ?_
          refine wi_icmp (cd := .ne) (nx := 70) (r1 := 72) (r2 := 0) (r3 := 0) rfl (by omega) (by omega) (fun (q23 : (h 238 i18) ≠ (h 238 i21)) => ?_) (fun (q23 : ¬ ((h 238 i18) ≠ (h 238 i21))) => ?_)
          ·
            refine wi_iload_n (i := 2) (e := x1) (nx := 73) (r1 := 0) (r2 := 0) (r3 := 0) rfl rfl ?_
            refine wi_iconst (n := (-1)) (nx := 74) (r1 := 0) (r2 := 0) (r3 := 0) rfl ?_
            refine wi_icmp (cd := .eq) (nx := 77) (r1 := 91) (r2 := 0) (r3 := 0) rfl (by omega) (by omega) (fun (q24 : x1 = (-1)) => ?_) (fun (q24 : ¬ (x1 = (-1))) => ?_)
            ·
              refine wi_iload_n (i := 3) (e := 0) (nx := 92) (r1 := 0) (r2 := 0) (r3 := 0) rfl rfl ?_
              refine wi_istore_n (i := 2) (e := 0) (lo2 := [(2, vi 0), (4, vi (h 238 98)), (0, .ref 236), (1, vi a0), (3, vi 0)]) (nx := 93) (r1 := 0) (r2 := 0) (r3 := 0) rfl rfl ?_
              refine wr_iincL (i := 3) (n := 1) (v := 0) (1) ([(3, vi 1), (2, vi 0), (4, vi (h 238 98)), (0, .ref 236), (1, vi a0)]) (nx := 96) (r1 := 0) (r2 := 0) (r3 := 0) rfl rfl (by decide) rfl ?_
              refine wi_goto (nx := 99) (r1 := 4) (r2 := 0) (r3 := 0) rfl ?_
              refine wp.lo (lo := [(0, .ref 236), (1, vi a0), (2, vi 0), (3, vi 1)]) ⟨rfl, rfl, rfl, rfl, trivial⟩ rfl ?_
              have cn25 : roomL (h 238) 0 := ⟨(show (0 : Int) + 1 ≤ h 238 1 by omega), (show h 238 98 < h 238 15 by omega)⟩
              exact I3 0 1 h ⟨rfl, (show (-1 ≤ 0 ∧ 0 ≤ 3) ∧ (0 ≤ 1 ∧ 1 ≤ 4) by omega), (laX.yes 0 (by decide) (by omega) cn25)⟩ (show ((4 : Int) + 1 - 1).toNat < ((4 : Int) + 1 - x2).toNat by omega)
            ·
              refine wi_iload (i := 4) (e := h 238 98) (nx := 79) (r1 := 0) (r2 := 0) (r3 := 0) rfl rfl ?_
              refine wi_aload_n (i := 0) (x := 236) (nx := 80) (r1 := 0) (r2 := 0) (r3 := 0) rfl rfl ?_
              refine wr_gr (k0 := 236) (x := 238) (nx := 83) (r1 := 11) (r2 := 13) (r3 := 0) rfl rfl (by decide) rfl ⟨rfl, rfl⟩ rfl ?_
              refine wi_bipush (n := 98) (nx := 85) (r1 := 0) (r2 := 0) (r3 := 0) rfl (by decide) ?_
              refine wi_iload_n (i := 2) (e := x1) (nx := 86) (r1 := 0) (r2 := 0) (r3 := 0) rfl rfl ?_
              refine wr_add (nx := 87) (r1 := 0) (r2 := 0) (r3 := 0) rfl (fun e25 (fe25 : e25 = 98 + x1) => ?_)
              obtain ⟨i26, ei26⟩ : ∃ q : Nat, e25 = (q : Int) := ⟨(e25).toNat, by omega⟩
              have b27 := gi_b (lo := 0) (hi := 6) g 238 i26 (gi_rg 98 4 (fun _ => rfl) (by decide +kernel) (by omega))
              refine wr_ia (k0 := 238) (a := e25) (f := i26) (x := h 238 i26) (nx := 88) (r1 := 0) (r2 := 0) (r3 := 0) rfl (by decide) rfl (by omega) (by omega) (by decide) rfl ?_
              refine wi_icmp (cd := .ge) (nx := 91) (r1 := 93) (r2 := 0) (r3 := 0) rfl (by omega) (by omega) (fun (q28 : (h 238 i26) ≤ (h 238 98)) => ?_) (fun (q28 : ¬ ((h 238 i26) ≤ (h 238 98))) => ?_)
              ·
                refine wr_iincL (i := 3) (n := 1) (v := 0) (1) ([(3, vi 1), (4, vi (h 238 98)), (0, .ref 236), (1, vi a0), (2, vi x1)]) (nx := 96) (r1 := 0) (r2 := 0) (r3 := 0) rfl rfl (by decide) rfl ?_
                refine wi_goto (nx := 99) (r1 := 4) (r2 := 0) (r3 := 0) rfl ?_
                refine wp.lo (lo := [(0, .ref 236), (1, vi a0), (2, vi x1), (3, vi 1)]) ⟨rfl, rfl, rfl, rfl, trivial⟩ rfl ?_
                exact I3 x1 1 h ⟨rfl, (show (-1 ≤ x1 ∧ x1 ≤ 3) ∧ (0 ≤ 1 ∧ 1 ≤ 4) by omega), (laX.keep X3_0 (by omega))⟩ (show ((4 : Int) + 1 - 1).toNat < ((4 : Int) + 1 - x2).toNat by omega)
              ·
                refine wi_iload_n (i := 3) (e := 0) (nx := 92) (r1 := 0) (r2 := 0) (r3 := 0) rfl rfl ?_
                refine wi_istore_n (i := 2) (e := 0) (lo2 := [(2, vi 0), (4, vi (h 238 98)), (0, .ref 236), (1, vi a0), (3, vi 0)]) (nx := 93) (r1 := 0) (r2 := 0) (r3 := 0) rfl rfl ?_
                refine wr_iincL (i := 3) (n := 1) (v := 0) (1) ([(3, vi 1), (2, vi 0), (4, vi (h 238 98)), (0, .ref 236), (1, vi a0)]) (nx := 96) (r1 := 0) (r2 := 0) (r3 := 0) rfl rfl (by decide) rfl ?_
                refine wi_goto (nx := 99) (r1 := 4) (r2 := 0) (r3 := 0) rfl ?_
                refine wp.lo (lo := [(0, .ref 236), (1, vi a0), (2, vi 0), (3, vi 1)]) ⟨rfl, rfl, rfl, rfl, trivial⟩ rfl ?_
                have cn29 : roomL (h 238) 0 := ⟨(show (0 : Int) + 1 ≤ h 238 1 by omega), (show h 238 98 < h 238 15 by omega)⟩
                exact I3 0 1 h ⟨rfl, (show (-1 ≤ 0 ∧ 0 ≤ 3) ∧ (0 ≤ 1 ∧ 1 ≤ 4) by omega), (laX.yes 0 (by decide) (by omega) cn29)⟩ (show ((4 : Int) + 1 - 1).toNat < ((4 : Int) + 1 - x2).toNat by omega)
          ·
            refine wi_iload_n (i := 3) (e := 0) (nx := 71) (r1 := 0) (r2 := 0) (r3 := 0) rfl rfl ?_
            refine wi_ireturn (nx := 72) (r1 := 0) (r2 := 0) (r3 := 0) rfl rfl ?_
            have cn24 : roomL (h 238) 0 := ⟨(show (0 : Int) + 1 ≤ h 238 1 by omega), (show h 238 98 < h 238 15 by omega)⟩
            exact k 0 (by omega) (laX.yes 0 (by decide) (by omega) cn24)
    ·
      rw [q7]
      refine wr_V (k0 := 236) (rest := []) (as := [.ref 236, vi 1]) (nx := 19) (r1 := 277) (r2 := 1) (r3 := 11) rfl rfl rfl (of_decide_eq_true rfl) rfl rfl (by decide) rfl rfl (of_decide_eq_true rfl) (of_decide_eq_true rfl) ?_
      refine wi_aload_n (i := 0) (x := 236) (nx := 1) (r1 := 0) (r2 := 0) (r3 := 0) rfl rfl ?_
      refine wr_gr (k0 := 236) (x := 238) (nx := 4) (r1 := 11) (r2 := 13) (r3 := 0) rfl rfl (by decide) rfl ⟨rfl, rfl⟩ rfl ?_
      refine wi_bipush (n := 98) (nx := 6) (r1 := 0) (r2 := 0) (r3 := 0) rfl (by decide) ?_
      refine wi_iload_n (i := 1) (e := 1) (nx := 7) (r1 := 0) (r2 := 0) (r3 := 0) rfl rfl ?_
      refine wr_addL (99) (nx := 8) (r1 := 0) (r2 := 0) (r3 := 0) rfl (by decide) ?_
      have b8 := gi_b (lo := 0) (hi := 6) g 238 99 rfl
      refine wr_ia (k0 := 238) (a := 99) (f := 99) (x := h 238 99) (nx := 9) (r1 := 0) (r2 := 0) (r3 := 0) rfl (by decide) rfl (by omega) (by omega) (by decide) rfl ?_
      refine wi_aload_n (i := 0) (x := 236) (nx := 10) (r1 := 0) (r2 := 0) (r3 := 0) rfl rfl ?_
      refine wr_gr (k0 := 236) (x := 238) (nx := 13) (r1 := 11) (r2 := 13) (r3 := 0) rfl rfl (by decide) rfl ⟨rfl, rfl⟩ rfl ?_
      refine wi_bipush (n := 15) (nx := 15) (r1 := 0) (r2 := 0) (r3 := 0) rfl (by decide) ?_
      refine wi_iload_n (i := 1) (e := 1) (nx := 16) (r1 := 0) (r2 := 0) (r3 := 0) rfl rfl ?_
      refine wr_addL (16) (nx := 17) (r1 := 0) (r2 := 0) (r3 := 0) rfl (by decide) ?_
      have b9 := gi_b (lo := 0) (hi := 6) g 238 16 rfl
      refine wr_ia (k0 := 238) (a := 16) (f := 16) (x := h 238 16) (nx := 18) (r1 := 0) (r2 := 0) (r3 := 0) rfl (by decide) rfl (by omega) (by omega) (by decide) rfl ?_
      refine wi_icmp (cd := .ge) (nx := 21) (r1 := 25) (r2 := 0) (r3 := 0) rfl (by omega) (by omega) (fun (q10 : (h 238 16) ≤ (h 238 99)) => ?_) (fun (q10 : ¬ ((h 238 16) ≤ (h 238 99))) => ?_)
      ·
        refine wi_iconst (n := 0) (nx := 26) (r1 := 0) (r2 := 0) (r3 := 0) rfl ?_
        refine wi_zreturn (nx := 27) (r1 := 0) (r2 := 0) (r3 := 0) rfl rfl (by omega) ?_
        refine wk_i ?_
        refine wi_if (cd := .ne) (nx := 22) (r1 := 25) (r2 := 0) (r3 := 0) rfl (by omega) (fun (q11 : 0 ≠ 0) => by exfalso; omega) (fun (q11 : ¬ (0 ≠ 0)) => ?_)
        refine wi_goto (nx := 25) (r1 := 93) (r2 := 0) (r3 := 0) rfl ?_
        refine wr_iincL (i := 3) (n := 1) (v := 1) (2) ([(3, vi 2), (0, .ref 236), (1, vi a0), (2, vi x1)]) (nx := 96) (r1 := 0) (r2 := 0) (r3 := 0) rfl rfl (by decide) rfl ?_
        refine wi_goto (nx := 99) (r1 := 4) (r2 := 0) (r3 := 0) rfl ?_
        refine wp.lo (lo := [(0, .ref 236), (1, vi a0), (2, vi x1), (3, vi 2)]) ⟨rfl, rfl, rfl, rfl, trivial⟩ rfl ?_
        have cn12 : ¬ roomL (h 238) 1 := fun c => by
          have c2 : h 238 99 < h 238 16 := c.2
          omega
        exact I3 x1 2 h ⟨rfl, (show (-1 ≤ x1 ∧ x1 ≤ 3) ∧ (0 ≤ 2 ∧ 2 ≤ 4) by omega), (laX.no X3_0 (by omega) 1 (by omega) cn12)⟩ (show ((4 : Int) + 1 - 2).toNat < ((4 : Int) + 1 - x2).toNat by omega)
      ·
        refine wi_iconst (n := 1) (nx := 22) (r1 := 0) (r2 := 0) (r3 := 0) rfl ?_
        refine wi_goto (nx := 25) (r1 := 26) (r2 := 0) (r3 := 0) rfl ?_
        refine wi_zreturn (nx := 27) (r1 := 0) (r2 := 0) (r3 := 0) rfl rfl (by omega) ?_
        refine wk_i ?_
        refine wi_if (cd := .ne) (nx := 22) (r1 := 25) (r2 := 0) (r3 := 0) rfl (by omega) (fun (q11 : 1 ≠ 0) => ?_) (fun (q11 : ¬ (1 ≠ 0)) => by exfalso; omega)
        refine wi_aload_n (i := 0) (x := 236) (nx := 26) (r1 := 0) (r2 := 0) (r3 := 0) rfl rfl ?_
        refine wr_gr (k0 := 236) (x := 238) (nx := 29) (r1 := 11) (r2 := 13) (r3 := 0) rfl rfl (by decide) rfl ⟨rfl, rfl⟩ rfl ?_
        refine wi_bipush (n := 98) (nx := 31) (r1 := 0) (r2 := 0) (r3 := 0) rfl (by decide) ?_
        refine wi_iload_n (i := 3) (e := 1) (nx := 32) (r1 := 0) (r2 := 0) (r3 := 0) rfl rfl ?_
        refine wr_addL (99) (nx := 33) (r1 := 0) (r2 := 0) (r3 := 0) rfl (by decide) ?_
        refine wr_ia (k0 := 238) (a := 99) (f := 99) (x := h 238 99) (nx := 34) (r1 := 0) (r2 := 0) (r3 := 0) rfl (by decide) rfl (by omega) (by omega) (by decide) rfl ?_
        refine wi_istore (i := 4) (e := h 238 99) (lo2 := [(4, vi (h 238 99)), (0, .ref 236), (1, vi a0), (2, vi x1), (3, vi 1)]) (nx := 36) (r1 := 0) (r2 := 0) (r3 := 0) rfl rfl ?_
        refine wi_iload (i := 4) (e := h 238 99) (nx := 38) (r1 := 0) (r2 := 0) (r3 := 0) rfl rfl ?_
        refine wi_if (cd := .le) (nx := 41) (r1 := 72) (r2 := 0) (r3 := 0) rfl (by omega) (fun (q12 : (h 238 99) ≤ 0) => ?_) (fun (q12 : ¬ ((h 238 99) ≤ 0)) => ?_)
        ·
          refine wi_iload_n (i := 2) (e := x1) (nx := 73) (r1 := 0) (r2 := 0) (r3 := 0) rfl rfl ?_
          refine wi_iconst (n := (-1)) (nx := 74) (r1 := 0) (r2 := 0) (r3 := 0) rfl ?_
          refine wi_icmp (cd := .eq) (nx := 77) (r1 := 91) (r2 := 0) (r3 := 0) rfl (by omega) (by omega) (fun (q13 : x1 = (-1)) => ?_) (fun (q13 : ¬ (x1 = (-1))) => ?_)
          ·
            refine wi_iload_n (i := 3) (e := 1) (nx := 92) (r1 := 0) (r2 := 0) (r3 := 0) rfl rfl ?_
            refine wi_istore_n (i := 2) (e := 1) (lo2 := [(2, vi 1), (4, vi (h 238 99)), (0, .ref 236), (1, vi a0), (3, vi 1)]) (nx := 93) (r1 := 0) (r2 := 0) (r3 := 0) rfl rfl ?_
            refine wr_iincL (i := 3) (n := 1) (v := 1) (2) ([(3, vi 2), (2, vi 1), (4, vi (h 238 99)), (0, .ref 236), (1, vi a0)]) (nx := 96) (r1 := 0) (r2 := 0) (r3 := 0) rfl rfl (by decide) rfl ?_
            refine wi_goto (nx := 99) (r1 := 4) (r2 := 0) (r3 := 0) rfl ?_
            refine wp.lo (lo := [(0, .ref 236), (1, vi a0), (2, vi 1), (3, vi 2)]) ⟨rfl, rfl, rfl, rfl, trivial⟩ rfl ?_
            have cn14 : roomL (h 238) 1 := ⟨(show (1 : Int) + 1 ≤ h 238 1 by omega), (show h 238 99 < h 238 16 by omega)⟩
            exact I3 1 2 h ⟨rfl, (show (-1 ≤ 1 ∧ 1 ≤ 3) ∧ (0 ≤ 2 ∧ 2 ≤ 4) by omega), (laX.yes 1 (by decide) (by omega) cn14)⟩ (show ((4 : Int) + 1 - 2).toNat < ((4 : Int) + 1 - x2).toNat by omega)
          ·
            refine wi_iload (i := 4) (e := h 238 99) (nx := 79) (r1 := 0) (r2 := 0) (r3 := 0) rfl rfl ?_
            refine wi_aload_n (i := 0) (x := 236) (nx := 80) (r1 := 0) (r2 := 0) (r3 := 0) rfl rfl ?_
            refine wr_gr (k0 := 236) (x := 238) (nx := 83) (r1 := 11) (r2 := 13) (r3 := 0) rfl rfl (by decide) rfl ⟨rfl, rfl⟩ rfl ?_
            refine wi_bipush (n := 98) (nx := 85) (r1 := 0) (r2 := 0) (r3 := 0) rfl (by decide) ?_
            refine wi_iload_n (i := 2) (e := x1) (nx := 86) (r1 := 0) (r2 := 0) (r3 := 0) rfl rfl ?_
            refine wr_add (nx := 87) (r1 := 0) (r2 := 0) (r3 := 0) rfl (fun e14 (fe14 : e14 = 98 + x1) => ?_)
            obtain ⟨i15, ei15⟩ : ∃ q : Nat, e14 = (q : Int) := ⟨(e14).toNat, by omega⟩
            have b16 := gi_b (lo := 0) (hi := 6) g 238 i15 (gi_rg 98 4 (fun _ => rfl) (by decide +kernel) (by omega))
            refine wr_ia (k0 := 238) (a := e14) (f := i15) (x := h 238 i15) (nx := 88) (r1 := 0) (r2 := 0) (r3 := 0) rfl (by decide) rfl (by omega) (by omega) (by decide) rfl ?_
            refine wi_icmp (cd := .ge) (nx := 91) (r1 := 93) (r2 := 0) (r3 := 0) rfl (by omega) (by omega) (fun (q17 : (h 238 i15) ≤ (h 238 99)) => ?_) (fun (q17 : ¬ ((h 238 i15) ≤ (h 238 99))) => ?_)
            ·
              refine wr_iincL (i := 3) (n := 1) (v := 1) (2) ([(3, vi 2), (4, vi (h 238 99)), (0, .ref 236), (1, vi a0), (2, vi x1)]) (nx := 96) (r1 := 0) (r2 := 0) (r3 := 0) rfl rfl (by decide) rfl ?_
              refine wi_goto (nx := 99) (r1 := 4) (r2 := 0) (r3 := 0) rfl ?_
              refine wp.lo (lo := [(0, .ref 236), (1, vi a0), (2, vi x1), (3, vi 2)]) ⟨rfl, rfl, rfl, rfl, trivial⟩ rfl ?_
              exact I3 x1 2 h ⟨rfl, (show (-1 ≤ x1 ∧ x1 ≤ 3) ∧ (0 ≤ 2 ∧ 2 ≤ 4) by omega), (laX.keep X3_0 (by omega))⟩ (show ((4 : Int) + 1 - 2).toNat < ((4 : Int) + 1 - x2).toNat by omega)
            ·
              refine wi_iload_n (i := 3) (e := 1) (nx := 92) (r1 := 0) (r2 := 0) (r3 := 0) rfl rfl ?_
              refine wi_istore_n (i := 2) (e := 1) (lo2 := [(2, vi 1), (4, vi (h 238 99)), (0, .ref 236), (1, vi a0), (3, vi 1)]) (nx := 93) (r1 := 0) (r2 := 0) (r3 := 0) rfl rfl ?_
              refine wr_iincL (i := 3) (n := 1) (v := 1) (2) ([(3, vi 2), (2, vi 1), (4, vi (h 238 99)), (0, .ref 236), (1, vi a0)]) (nx := 96) (r1 := 0) (r2 := 0) (r3 := 0) rfl rfl (by decide) rfl ?_
              refine wi_goto (nx := 99) (r1 := 4) (r2 := 0) (r3 := 0) rfl ?_
              refine wp.lo (lo := [(0, .ref 236), (1, vi a0), (2, vi 1), (3, vi 2)]) ⟨rfl, rfl, rfl, rfl, trivial⟩ rfl ?_
              have cn18 : roomL (h 238) 1 := ⟨(show (1 : Int) + 1 ≤ h 238 1 by omega), (show h 238 99 < h 238 16 by omega)⟩
              exact I3 1 2 h ⟨rfl, (show (-1 ≤ 1 ∧ 1 ≤ 3) ∧ (0 ≤ 2 ∧ 2 ≤ 4) by omega), (laX.yes 1 (by decide) (by omega) cn18)⟩ (show ((4 : Int) + 1 - 2).toNat < ((4 : Int) + 1 - x2).toNat by omega)
        ·
          refine wi_aload_n (i := 0) (x := 236) (nx := 42) (r1 := 0) (r2 := 0) (r3 := 0) rfl rfl ?_
          refine wr_gr (k0 := 236) (x := 238) (nx := 45) (r1 := 11) (r2 := 13) (r3 := 0) rfl rfl (by decide) rfl ⟨rfl, rfl⟩ rfl ?_
          refine wi_bipush (n := 31) (nx := 47) (r1 := 0) (r2 := 0) (r3 := 0) rfl (by decide) ?_
          refine wi_aload_n (i := 0) (x := 236) (nx := 48) (r1 := 0) (r2 := 0) (r3 := 0) rfl rfl ?_
          refine wi_iload_n (i := 3) (e := 1) (nx := 49) (r1 := 0) (r2 := 0) (r3 := 0) rfl rfl ?_
          refine wi_iload (i := 4) (e := h 238 99) (nx := 51) (r1 := 0) (r2 := 0) (r3 := 0) rfl rfl ?_
          refine wi_iconst (n := 1) (nx := 52) (r1 := 0) (r2 := 0) (r3 := 0) rfl ?_
          refine wr_sub (nx := 53) (r1 := 0) (r2 := 0) (r3 := 0) rfl (fun e13 (fe13 : e13 = (h 238 99) - 1) => ?_)
          refine wr_V (k0 := 236) (rest := [vi 31, .ref 238]) (as := [.ref 236, vi 1, vi e13]) (nx := 56) (r1 := 258) (r2 := 2) (r3 := 11) rfl rfl rfl (of_decide_eq_true rfl) rfl rfl (by decide) rfl rfl (of_decide_eq_true rfl) (of_decide_eq_true rfl) ?_
          refine wi_aload_n (i := 0) (x := 236) (nx := 1) (r1 := 0) (r2 := 0) (r3 := 0) rfl rfl ?_
          refine wr_gr (k0 := 236) (x := 238) (nx := 4) (r1 := 11) (r2 := 13) (r3 := 0) rfl rfl (by decide) rfl ⟨rfl, rfl⟩ rfl ?_
          refine wi_bipush (n := 74) (nx := 6) (r1 := 0) (r2 := 0) (r3 := 0) rfl (by decide) ?_
          refine wi_bipush (n := 6) (nx := 8) (r1 := 0) (r2 := 0) (r3 := 0) rfl (by decide) ?_
          refine wi_iload_n (i := 1) (e := 1) (nx := 9) (r1 := 0) (r2 := 0) (r3 := 0) rfl rfl ?_
          refine wr_mulL (6) (nx := 10) (r1 := 0) (r2 := 0) (r3 := 0) rfl (by decide) ?_
          refine wr_addL (80) (nx := 11) (r1 := 0) (r2 := 0) (r3 := 0) rfl (by decide) ?_
          refine wi_iload_n (i := 2) (e := e13) (nx := 12) (r1 := 0) (r2 := 0) (r3 := 0) rfl rfl ?_
          refine wr_add (nx := 13) (r1 := 0) (r2 := 0) (r3 := 0) rfl (fun e14 (fe14 : e14 = 80 + e13) => ?_)
          obtain ⟨i15, ei15⟩ : ∃ q : Nat, e14 = (q : Int) := ⟨(e14).toNat, by omega⟩
          have b16 := gi_b (lo := 0) (hi := 11) g 238 i15 (gi_rg 80 5 (fun _ => rfl) (by decide +kernel) (by omega))
          refine wr_ia (k0 := 238) (a := e14) (f := i15) (x := h 238 i15) (nx := 14) (r1 := 0) (r2 := 0) (r3 := 0) rfl (by decide) rfl (by omega) (by omega) (by decide) rfl ?_
          refine wi_ireturn (nx := 15) (r1 := 0) (r2 := 0) (r3 := 0) rfl rfl ?_
          refine wk_i ?_
          refine wr_add (nx := 57) (r1 := 0) (r2 := 0) (r3 := 0) rfl (fun e17 (fe17 : e17 = 31 + (h 238 i15)) => ?_)
          obtain ⟨i18, ei18⟩ : ∃ q : Nat, e17 = (q : Int) := ⟨(e17).toNat, by omega⟩
          have b19 := gi_b (lo := 0) (hi := 4) g 238 i18 (gi_rg 31 12 (fun _ => rfl) (by decide +kernel) (by omega))
          refine wr_ia (k0 := 238) (a := e17) (f := i18) (x := h 238 i18) (nx := 58) (r1 := 0) (r2 := 0) (r3 := 0) rfl (by decide) rfl (by omega) (by omega) (by decide) rfl ?_
          refine wi_aload_n (i := 0) (x := 236) (nx := 59) (r1 := 0) (r2 := 0) (r3 := 0) rfl rfl ?_
          refine wr_gr (k0 := 236) (x := 238) (nx := 62) (r1 := 11) (r2 := 13) (r3 := 0) rfl rfl (by decide) rfl ⟨rfl, rfl⟩ rfl ?_
          refine wi_bipush (n := 31) (nx := 64) (r1 := 0) (r2 := 0) (r3 := 0) rfl (by decide) ?_
          refine wi_iload_n (i := 1) (e := a0) (nx := 65) (r1 := 0) (r2 := 0) (r3 := 0) rfl rfl ?_
          refine wr_add (nx := 66) (r1 := 0) (r2 := 0) (r3 := 0) rfl (fun e20 (fe20 : e20 = 31 + a0) => ?_)
          obtain ⟨i21, ei21⟩ : ∃ q : Nat, e20 = (q : Int) := ⟨(e20).toNat, by omega⟩
          have b22 := gi_b (lo := 0) (hi := 4) g 238 i21 (gi_rg 31 12 (fun _ => rfl) (by decide +kernel) (by omega))
          refine wr_ia (k0 := 238) (a := e20) (f := i21) (x := h 238 i21) (nx := 67) (r1 := 0) (r2 := 0) (r3 := 0) rfl (by decide) rfl (by omega) (by omega) (by decide) rfl ?_
          refine wi_icmp (cd := .ne) (nx := 70) (r1 := 72) (r2 := 0) (r3 := 0) rfl (by omega) (by omega) (fun (q23 : (h 238 i18) ≠ (h 238 i21)) => ?_) (fun (q23 : ¬ ((h 238 i18) ≠ (h 238 i21))) => ?_)
          ·
            refine wi_iload_n (i := 2) (e := x1) (nx := 73) (r1 := 0) (r2 := 0) (r3 := 0) rfl rfl ?_
            refine wi_iconst (n := (-1)) (nx := 74) (r1 := 0) (r2 := 0) (r3 := 0) rfl ?_
            refine wi_icmp (cd := .eq) (nx := 77) (r1 := 91) (r2 := 0) (r3 := 0) rfl (by omega) (by omega) (fun (q24 : x1 = (-1)) => ?_) (fun (q24 : ¬ (x1 = (-1))) => ?_)
            ·
              refine wi_iload_n (i := 3) (e := 1) (nx := 92) (r1 := 0) (r2 := 0) (r3 := 0) rfl rfl ?_
              refine wi_istore_n (i := 2) (e := 1) (lo2 := [(2, vi 1), (4, vi (h 238 99)), (0, .ref 236), (1, vi a0), (3, vi 1)]) (nx := 93) (r1 := 0) (r2 := 0) (r3 := 0) rfl rfl ?_
              refine wr_iincL (i := 3) (n := 1) (v := 1) (2) ([(3, vi 2), (2, vi 1), (4, vi (h 238 99)), (0, .ref 236), (1, vi a0)]) (nx := 96) (r1 := 0) (r2 := 0) (r3 := 0) rfl rfl (by decide) rfl ?_
              refine wi_goto (nx := 99) (r1 := 4) (r2 := 0) (r3 := 0) rfl ?_
              refine wp.lo (lo := [(0, .ref 236), (1, vi a0), (2, vi 1), (3, vi 2)]) ⟨rfl, rfl, rfl, rfl, trivial⟩ rfl ?_
              have cn25 : roomL (h 238) 1 := ⟨(show (1 : Int) + 1 ≤ h 238 1 by omega), (show h 238 99 < h 238 16 by omega)⟩
              exact I3 1 2 h ⟨rfl, (show (-1 ≤ 1 ∧ 1 ≤ 3) ∧ (0 ≤ 2 ∧ 2 ≤ 4) by omega), (laX.yes 1 (by decide) (by omega) cn25)⟩ (show ((4 : Int) + 1 - 2).toNat < ((4 : Int) + 1 - x2).toNat by omega)
            ·
              refine wi_iload (i := 4) (e := h 238 99) (nx := 79) (r1 := 0) (r2 := 0) (r3 := 0) rfl rfl ?_
              refine wi_aload_n (i := 0) (x := 236) (nx := 80) (r1 := 0) (r2 := 0) (r3 := 0) rfl rfl ?_
              refine wr_gr (k0 := 236) (x := 238) (nx := 83) (r1 := 11) (r2 := 13) (r3 := 0) rfl rfl (by decide) rfl ⟨rfl, rfl⟩ rfl ?_
              refine wi_bipush (n := 98) (nx := 85) (r1 := 0) (r2 := 0) (r3 := 0) rfl (by decide) ?_
              refine wi_iload_n (i := 2) (e := x1) (nx := 86) (r1 := 0) (r2 := 0) (r3 := 0) rfl rfl ?_
              refine wr_add (nx := 87) (r1 := 0) (r2 := 0) (r3 := 0) rfl (fun e25 (fe25 : e25 = 98 + x1) => ?_)
              obtain ⟨i26, ei26⟩ : ∃ q : Nat, e25 = (q : Int) := ⟨(e25).toNat, by omega⟩
              have b27 := gi_b (lo := 0) (hi := 6) g 238 i26 (gi_rg 98 4 (fun _ => rfl) (by decide +kernel) (by omega))
              refine wr_ia (k0 := 238) (a := e25) (f := i26) (x := h 238 i26) (nx := 88) (r1 := 0) (r2 := 0) (r3 := 0) rfl (by decide) rfl (by omega) (by omega) (by decide) rfl ?_
              refine wi_icmp (cd := .ge) (nx := 91) (r1 := 93) (r2 := 0) (r3 := 0) rfl (by omega) (by omega) (fun (q28 : (h 238 i26) ≤ (h 238 99)) => ?_) (fun (q28 : ¬ ((h 238 i26) ≤ (h 238 99))) => ?_)
              ·
                refine wr_iincL (i := 3) (n := 1) (v := 1) (2) ([(3, vi 2), (4, vi (h 238 99)), (0, .ref 236), (1, vi a0), (2, vi x1)]) (nx := 96) (r1 := 0) (r2 := 0) (r3 := 0) rfl rfl (by decide) rfl ?_
                refine wi_goto (nx := 99) (r1 := 4) (r2 := 0) (r3 := 0) rfl ?_
                refine wp.lo (lo := [(0, .ref 236), (1, vi a0), (2, vi x1), (3, vi 2)]) ⟨rfl, rfl, rfl, rfl, trivial⟩ rfl ?_
                exact I3 x1 2 h ⟨rfl, (show (-1 ≤ x1 ∧ x1 ≤ 3) ∧ (0 ≤ 2 ∧ 2 ≤ 4) by omega), (laX.keep X3_0 (by omega))⟩ (show ((4 : Int) + 1 - 2).toNat < ((4 : Int) + 1 - x2).toNat by omega)
              ·
                refine wi_iload_n (i := 3) (e := 1) (nx := 92) (r1 := 0) (r2 := 0) (r3 := 0) rfl rfl ?_
                refine wi_istore_n (i := 2) (e := 1) (lo2 := [(2, vi 1), (4, vi (h 238 99)), (0, .ref 236), (1, vi a0), (3, vi 1)]) (nx := 93) (r1 := 0) (r2 := 0) (r3 := 0) rfl rfl ?_
                refine wr_iincL (i := 3) (n := 1) (v := 1) (2) ([(3, vi 2), (2, vi 1), (4, vi (h 238 99)), (0, .ref 236), (1, vi a0)]) (nx := 96) (r1 := 0) (r2 := 0) (r3 := 0) rfl rfl (by decide) rfl ?_
                refine wi_goto (nx := 99) (r1 := 4) (r2 := 0) (r3 := 0) rfl ?_
                refine wp.lo (lo := [(0, .ref 236), (1, vi a0), (2, vi 1), (3, vi 2)]) ⟨rfl, rfl, rfl, rfl, trivial⟩ rfl ?_
                have cn29 : roomL (h 238) 1 := ⟨(show (1 : Int) + 1 ≤ h 238 1 by omega), (show h 238 99 < h 238 16 by omega)⟩
                exact I3 1 2 h ⟨rfl, (show (-1 ≤ 1 ∧ 1 ≤ 3) ∧ (0 ≤ 2 ∧ 2 ≤ 4) by omega), (laX.yes 1 (by decide) (by omega) cn29)⟩ (show ((4 : Int) + 1 - 2).toNat < ((4 : Int) + 1 - x2).toNat by omega)
          ·
            refine wi_iload_n (i := 3) (e := 1) (nx := 71) (r1 := 0) (r2 := 0) (r3 := 0) rfl rfl ?_
            refine wi_ireturn (nx := 72) (r1 := 0) (r2 := 0) (r3 := 0) rfl rfl ?_
            have cn24 : roomL (h 238) 1 := ⟨(show (1 : Int) + 1 ≤ h 238 1 by omega), (show h 238 99 < h 238 16 by omega)⟩
            exact k 1 (by omega) (laX.yes 1 (by decide) (by omega) cn24)
    ·
      rw [q7]
      refine wr_V (k0 := 236) (rest := []) (as := [.ref 236, vi 2]) (nx := 19) (r1 := 277) (r2 := 1) (r3 := 11) rfl rfl rfl (of_decide_eq_true rfl) rfl rfl (by decide) rfl rfl (of_decide_eq_true rfl) (of_decide_eq_true rfl) ?_
      refine wi_aload_n (i := 0) (x := 236) (nx := 1) (r1 := 0) (r2 := 0) (r3 := 0) rfl rfl ?_
      refine wr_gr (k0 := 236) (x := 238) (nx := 4) (r1 := 11) (r2 := 13) (r3 := 0) rfl rfl (by decide) rfl ⟨rfl, rfl⟩ rfl ?_
      refine wi_bipush (n := 98) (nx := 6) (r1 := 0) (r2 := 0) (r3 := 0) rfl (by decide) ?_
      refine wi_iload_n (i := 1) (e := 2) (nx := 7) (r1 := 0) (r2 := 0) (r3 := 0) rfl rfl ?_
      refine wr_addL (100) (nx := 8) (r1 := 0) (r2 := 0) (r3 := 0) rfl (by decide) ?_
      have b8 := gi_b (lo := 0) (hi := 6) g 238 100 rfl
      refine wr_ia (k0 := 238) (a := 100) (f := 100) (x := h 238 100) (nx := 9) (r1 := 0) (r2 := 0) (r3 := 0) rfl (by decide) rfl (by omega) (by omega) (by decide) rfl ?_
      refine wi_aload_n (i := 0) (x := 236) (nx := 10) (r1 := 0) (r2 := 0) (r3 := 0) rfl rfl ?_
      refine wr_gr (k0 := 236) (x := 238) (nx := 13) (r1 := 11) (r2 := 13) (r3 := 0) rfl rfl (by decide) rfl ⟨rfl, rfl⟩ rfl ?_
      refine wi_bipush (n := 15) (nx := 15) (r1 := 0) (r2 := 0) (r3 := 0) rfl (by decide) ?_
      refine wi_iload_n (i := 1) (e := 2) (nx := 16) (r1 := 0) (r2 := 0) (r3 := 0) rfl rfl ?_
      refine wr_addL (17) (nx := 17) (r1 := 0) (r2 := 0) (r3 := 0) rfl (by decide) ?_
      have b9 := gi_b (lo := 0) (hi := 6) g 238 17 rfl
      refine wr_ia (k0 := 238) (a := 17) (f := 17) (x := h 238 17) (nx := 18) (r1 := 0) (r2 := 0) (r3 := 0) rfl (by decide) rfl (by omega) (by omega) (by decide) rfl ?_
      refine wi_icmp (cd := .ge) (nx := 21) (r1 := 25) (r2 := 0) (r3 := 0) rfl (by omega) (by omega) (fun (q10 : (h 238 17) ≤ (h 238 100)) => ?_) (fun (q10 : ¬ ((h 238 17) ≤ (h 238 100))) => ?_)
      ·
        refine wi_iconst (n := 0) (nx := 26) (r1 := 0) (r2 := 0) (r3 := 0) rfl ?_
        refine wi_zreturn (nx := 27) (r1 := 0) (r2 := 0) (r3 := 0) rfl rfl (by omega) ?_
        refine wk_i ?_
        refine wi_if (cd := .ne) (nx := 22) (r1 := 25) (r2 := 0) (r3 := 0) rfl (by omega) (fun (q11 : 0 ≠ 0) => by exfalso; omega) (fun (q11 : ¬ (0 ≠ 0)) => ?_)
        refine wi_goto (nx := 25) (r1 := 93) (r2 := 0) (r3 := 0) rfl ?_
        refine wr_iincL (i := 3) (n := 1) (v := 2) (3) ([(3, vi 3), (0, .ref 236), (1, vi a0), (2, vi x1)]) (nx := 96) (r1 := 0) (r2 := 0) (r3 := 0) rfl rfl (by decide) rfl ?_
        refine wi_goto (nx := 99) (r1 := 4) (r2 := 0) (r3 := 0) rfl ?_
        refine wp.lo (lo := [(0, .ref 236), (1, vi a0), (2, vi x1), (3, vi 3)]) ⟨rfl, rfl, rfl, rfl, trivial⟩ rfl ?_
        have cn12 : ¬ roomL (h 238) 2 := fun c => by
          have c2 : h 238 100 < h 238 17 := c.2
          omega
        exact I3 x1 3 h ⟨rfl, (show (-1 ≤ x1 ∧ x1 ≤ 3) ∧ (0 ≤ 3 ∧ 3 ≤ 4) by omega), (laX.no X3_0 (by omega) 2 (by omega) cn12)⟩ (show ((4 : Int) + 1 - 3).toNat < ((4 : Int) + 1 - x2).toNat by omega)
      ·
        refine wi_iconst (n := 1) (nx := 22) (r1 := 0) (r2 := 0) (r3 := 0) rfl ?_
        refine wi_goto (nx := 25) (r1 := 26) (r2 := 0) (r3 := 0) rfl ?_
        refine wi_zreturn (nx := 27) (r1 := 0) (r2 := 0) (r3 := 0) rfl rfl (by omega) ?_
        refine wk_i ?_
        refine wi_if (cd := .ne) (nx := 22) (r1 := 25) (r2 := 0) (r3 := 0) rfl (by omega) (fun (q11 : 1 ≠ 0) => ?_) (fun (q11 : ¬ (1 ≠ 0)) => by exfalso; omega)
        refine wi_aload_n (i := 0) (x := 236) (nx := 26) (r1 := 0) (r2 := 0) (r3 := 0) rfl rfl ?_
        refine wr_gr (k0 := 236) (x := 238) (nx := 29) (r1 := 11) (r2 := 13) (r3 := 0) rfl rfl (by decide) rfl ⟨rfl, rfl⟩ rfl ?_
        refine wi_bipush (n := 98) (nx := 31) (r1 := 0) (r2 := 0) (r3 := 0) rfl (by decide) ?_
        refine wi_iload_n (i := 3) (e := 2) (nx := 32) (r1 := 0) (r2 := 0) (r3 := 0) rfl rfl ?_
        refine wr_addL (100) (nx := 33) (r1 := 0) (r2 := 0) (r3 := 0) rfl (by decide) ?_
        refine wr_ia (k0 := 238) (a := 100) (f := 100) (x := h 238 100) (nx := 34) (r1 := 0) (r2 := 0) (r3 := 0) rfl (by decide) rfl (by omega) (by omega) (by decide) rfl ?_
        refine wi_istore (i := 4) (e := h 238 100) (lo2 := [(4, vi (h 238 100)), (0, .ref 236), (1, vi a0), (2, vi x1), (3, vi 2)]) (nx := 36) (r1 := 0) (r2 := 0) (r3 := 0) rfl rfl ?_
        refine wi_iload (i := 4) (e := h 238 100) (nx := 38) (r1 := 0) (r2 := 0) (r3 := 0) rfl rfl ?_
        refine wi_if (cd := .le) (nx := 41) (r1 := 72) (r2 := 0) (r3 := 0) rfl (by omega) (fun (q12 : (h 238 100) ≤ 0) => ?_) (fun (q12 : ¬ ((h 238 100) ≤ 0)) => ?_)
        ·
          refine wi_iload_n (i := 2) (e := x1) (nx := 73) (r1 := 0) (r2 := 0) (r3 := 0) rfl rfl ?_
          refine wi_iconst (n := (-1)) (nx := 74) (r1 := 0) (r2 := 0) (r3 := 0) rfl ?_
          refine wi_icmp (cd := .eq) (nx := 77) (r1 := 91) (r2 := 0) (r3 := 0) rfl (by omega) (by omega) (fun (q13 : x1 = (-1)) => ?_) (fun (q13 : ¬ (x1 = (-1))) => ?_)
          ·
            refine wi_iload_n (i := 3) (e := 2) (nx := 92) (r1 := 0) (r2 := 0) (r3 := 0) rfl rfl ?_
            refine wi_istore_n (i := 2) (e := 2) (lo2 := [(2, vi 2), (4, vi (h 238 100)), (0, .ref 236), (1, vi a0), (3, vi 2)]) (nx := 93) (r1 := 0) (r2 := 0) (r3 := 0) rfl rfl ?_
            refine wr_iincL (i := 3) (n := 1) (v := 2) (3) ([(3, vi 3), (2, vi 2), (4, vi (h 238 100)), (0, .ref 236), (1, vi a0)]) (nx := 96) (r1 := 0) (r2 := 0) (r3 := 0) rfl rfl (by decide) rfl ?_
            refine wi_goto (nx := 99) (r1 := 4) (r2 := 0) (r3 := 0) rfl ?_
            refine wp.lo (lo := [(0, .ref 236), (1, vi a0), (2, vi 2), (3, vi 3)]) ⟨rfl, rfl, rfl, rfl, trivial⟩ rfl ?_
            have cn14 : roomL (h 238) 2 := ⟨(show (2 : Int) + 1 ≤ h 238 1 by omega), (show h 238 100 < h 238 17 by omega)⟩
            exact I3 2 3 h ⟨rfl, (show (-1 ≤ 2 ∧ 2 ≤ 3) ∧ (0 ≤ 3 ∧ 3 ≤ 4) by omega), (laX.yes 2 (by decide) (by omega) cn14)⟩ (show ((4 : Int) + 1 - 3).toNat < ((4 : Int) + 1 - x2).toNat by omega)
          ·
            refine wi_iload (i := 4) (e := h 238 100) (nx := 79) (r1 := 0) (r2 := 0) (r3 := 0) rfl rfl ?_
            refine wi_aload_n (i := 0) (x := 236) (nx := 80) (r1 := 0) (r2 := 0) (r3 := 0) rfl rfl ?_
            refine wr_gr (k0 := 236) (x := 238) (nx := 83) (r1 := 11) (r2 := 13) (r3 := 0) rfl rfl (by decide) rfl ⟨rfl, rfl⟩ rfl ?_
            refine wi_bipush (n := 98) (nx := 85) (r1 := 0) (r2 := 0) (r3 := 0) rfl (by decide) ?_
            refine wi_iload_n (i := 2) (e := x1) (nx := 86) (r1 := 0) (r2 := 0) (r3 := 0) rfl rfl ?_
            refine wr_add (nx := 87) (r1 := 0) (r2 := 0) (r3 := 0) rfl (fun e14 (fe14 : e14 = 98 + x1) => ?_)
            obtain ⟨i15, ei15⟩ : ∃ q : Nat, e14 = (q : Int) := ⟨(e14).toNat, by omega⟩
            have b16 := gi_b (lo := 0) (hi := 6) g 238 i15 (gi_rg 98 4 (fun _ => rfl) (by decide +kernel) (by omega))
            refine wr_ia (k0 := 238) (a := e14) (f := i15) (x := h 238 i15) (nx := 88) (r1 := 0) (r2 := 0) (r3 := 0) rfl (by decide) rfl (by omega) (by omega) (by decide) rfl ?_
            refine wi_icmp (cd := .ge) (nx := 91) (r1 := 93) (r2 := 0) (r3 := 0) rfl (by omega) (by omega) (fun (q17 : (h 238 i15) ≤ (h 238 100)) => ?_) (fun (q17 : ¬ ((h 238 i15) ≤ (h 238 100))) => ?_)
            ·
              refine wr_iincL (i := 3) (n := 1) (v := 2) (3) ([(3, vi 3), (4, vi (h 238 100)), (0, .ref 236), (1, vi a0), (2, vi x1)]) (nx := 96) (r1 := 0) (r2 := 0) (r3 := 0) rfl rfl (by decide) rfl ?_
              refine wi_goto (nx := 99) (r1 := 4) (r2 := 0) (r3 := 0) rfl ?_
              refine wp.lo (lo := [(0, .ref 236), (1, vi a0), (2, vi x1), (3, vi 3)]) ⟨rfl, rfl, rfl, rfl, trivial⟩ rfl ?_
              exact I3 x1 3 h ⟨rfl, (show (-1 ≤ x1 ∧ x1 ≤ 3) ∧ (0 ≤ 3 ∧ 3 ≤ 4) by omega), (laX.keep X3_0 (by omega))⟩ (show ((4 : Int) + 1 - 3).toNat < ((4 : Int) + 1 - x2).toNat by omega)
            ·
              refine wi_iload_n (i := 3) (e := 2) (nx := 92) (r1 := 0) (r2 := 0) (r3 := 0) rfl rfl ?_
              refine wi_istore_n (i := 2) (e := 2) (lo2 := [(2, vi 2), (4, vi (h 238 100)), (0, .ref 236), (1, vi a0), (3, vi 2)]) (nx := 93) (r1 := 0) (r2 := 0) (r3 := 0) rfl rfl ?_
              refine wr_iincL (i := 3) (n := 1) (v := 2) (3) ([(3, vi 3), (2, vi 2), (4, vi (h 238 100)), (0, .ref 236), (1, vi a0)]) (nx := 96) (r1 := 0) (r2 := 0) (r3 := 0) rfl rfl (by decide) rfl ?_
              refine wi_goto (nx := 99) (r1 := 4) (r2 := 0) (r3 := 0) rfl ?_
              refine wp.lo (lo := [(0, .ref 236), (1, vi a0), (2, vi 2), (3, vi 3)]) ⟨rfl, rfl, rfl, rfl, trivial⟩ rfl ?_
              have cn18 : roomL (h 238) 2 := ⟨(show (2 : Int) + 1 ≤ h 238 1 by omega), (show h 238 100 < h 238 17 by omega)⟩
              exact I3 2 3 h ⟨rfl, (show (-1 ≤ 2 ∧ 2 ≤ 3) ∧ (0 ≤ 3 ∧ 3 ≤ 4) by omega), (laX.yes 2 (by decide) (by omega) cn18)⟩ (show ((4 : Int) + 1 - 3).toNat < ((4 : Int) + 1 - x2).toNat by omega)
        ·
          refine wi_aload_n (i := 0) (x := 236) (nx := 42) (r1 := 0) (r2 := 0) (r3 := 0) rfl rfl ?_
          refine wr_gr (k0 := 236) (x := 238) (nx := 45) (r1 := 11) (r2 := 13) (r3 := 0) rfl rfl (by decide) rfl ⟨rfl, rfl⟩ rfl ?_
          refine wi_bipush (n := 31) (nx := 47) (r1 := 0) (r2 := 0) (r3 := 0) rfl (by decide) ?_
          refine wi_aload_n (i := 0) (x := 236) (nx := 48) (r1 := 0) (r2 := 0) (r3 := 0) rfl rfl ?_
          refine wi_iload_n (i := 3) (e := 2) (nx := 49) (r1 := 0) (r2 := 0) (r3 := 0) rfl rfl ?_
          refine wi_iload (i := 4) (e := h 238 100) (nx := 51) (r1 := 0) (r2 := 0) (r3 := 0) rfl rfl ?_
          refine wi_iconst (n := 1) (nx := 52) (r1 := 0) (r2 := 0) (r3 := 0) rfl ?_
          refine wr_sub (nx := 53) (r1 := 0) (r2 := 0) (r3 := 0) rfl (fun e13 (fe13 : e13 = (h 238 100) - 1) => ?_)
          refine wr_V (k0 := 236) (rest := [vi 31, .ref 238]) (as := [.ref 236, vi 2, vi e13]) (nx := 56) (r1 := 258) (r2 := 2) (r3 := 11) rfl rfl rfl (of_decide_eq_true rfl) rfl rfl (by decide) rfl rfl (of_decide_eq_true rfl) (of_decide_eq_true rfl) ?_
          refine wi_aload_n (i := 0) (x := 236) (nx := 1) (r1 := 0) (r2 := 0) (r3 := 0) rfl rfl ?_
          refine wr_gr (k0 := 236) (x := 238) (nx := 4) (r1 := 11) (r2 := 13) (r3 := 0) rfl rfl (by decide) rfl ⟨rfl, rfl⟩ rfl ?_
          refine wi_bipush (n := 74) (nx := 6) (r1 := 0) (r2 := 0) (r3 := 0) rfl (by decide) ?_
          refine wi_bipush (n := 6) (nx := 8) (r1 := 0) (r2 := 0) (r3 := 0) rfl (by decide) ?_
          refine wi_iload_n (i := 1) (e := 2) (nx := 9) (r1 := 0) (r2 := 0) (r3 := 0) rfl rfl ?_
          refine wr_mulL (12) (nx := 10) (r1 := 0) (r2 := 0) (r3 := 0) rfl (by decide) ?_
          refine wr_addL (86) (nx := 11) (r1 := 0) (r2 := 0) (r3 := 0) rfl (by decide) ?_
          refine wi_iload_n (i := 2) (e := e13) (nx := 12) (r1 := 0) (r2 := 0) (r3 := 0) rfl rfl ?_
          refine wr_add (nx := 13) (r1 := 0) (r2 := 0) (r3 := 0) rfl (fun e14 (fe14 : e14 = 86 + e13) => ?_)
          obtain ⟨i15, ei15⟩ : ∃ q : Nat, e14 = (q : Int) := ⟨(e14).toNat, by omega⟩
          have b16 := gi_b (lo := 0) (hi := 11) g 238 i15 (gi_rg 86 5 (fun _ => rfl) (by decide +kernel) (by omega))
          refine wr_ia (k0 := 238) (a := e14) (f := i15) (x := h 238 i15) (nx := 14) (r1 := 0) (r2 := 0) (r3 := 0) rfl (by decide) rfl (by omega) (by omega) (by decide) rfl ?_
          refine wi_ireturn (nx := 15) (r1 := 0) (r2 := 0) (r3 := 0) rfl rfl ?_
          refine wk_i ?_
          refine wr_add (nx := 57) (r1 := 0) (r2 := 0) (r3 := 0) rfl (fun e17 (fe17 : e17 = 31 + (h 238 i15)) => ?_)
          obtain ⟨i18, ei18⟩ : ∃ q : Nat, e17 = (q : Int) := ⟨(e17).toNat, by omega⟩
          have b19 := gi_b (lo := 0) (hi := 4) g 238 i18 (gi_rg 31 12 (fun _ => rfl) (by decide +kernel) (by omega))
          refine wr_ia (k0 := 238) (a := e17) (f := i18) (x := h 238 i18) (nx := 58) (r1 := 0) (r2 := 0) (r3 := 0) rfl (by decide) rfl (by omega) (by omega) (by decide) rfl ?_
          refine wi_aload_n (i := 0) (x := 236) (nx := 59) (r1 := 0) (r2 := 0) (r3 := 0) rfl rfl ?_
          refine wr_gr (k0 := 236) (x := 238) (nx := 62) (r1 := 11) (r2 := 13) (r3 := 0) rfl rfl (by decide) rfl ⟨rfl, rfl⟩ rfl ?_
          refine wi_bipush (n := 31) (nx := 64) (r1 := 0) (r2 := 0) (r3 := 0) rfl (by decide) ?_
          refine wi_iload_n (i := 1) (e := a0) (nx := 65) (r1 := 0) (r2 := 0) (r3 := 0) rfl rfl ?_
          refine wr_add (nx := 66) (r1 := 0) (r2 := 0) (r3 := 0) rfl (fun e20 (fe20 : e20 = 31 + a0) => ?_)
          obtain ⟨i21, ei21⟩ : ∃ q : Nat, e20 = (q : Int) := ⟨(e20).toNat, by omega⟩
          have b22 := gi_b (lo := 0) (hi := 4) g 238 i21 (gi_rg 31 12 (fun _ => rfl) (by decide +kernel) (by omega))
          refine wr_ia (k0 := 238) (a := e20) (f := i21) (x := h 238 i21) (nx := 67) (r1 := 0) (r2 := 0) (r3 := 0) rfl (by decide) rfl (by omega) (by omega) (by decide) rfl ?_
          refine wi_icmp (cd := .ne) (nx := 70) (r1 := 72) (r2 := 0) (r3 := 0) rfl (by omega) (by omega) (fun (q23 : (h 238 i18) ≠ (h 238 i21)) => ?_) (fun (q23 : ¬ ((h 238 i18) ≠ (h 238 i21))) => ?_)
          ·
            refine wi_iload_n (i := 2) (e := x1) (nx := 73) (r1 := 0) (r2 := 0) (r3 := 0) rfl rfl ?_
            refine wi_iconst (n := (-1)) (nx := 74) (r1 := 0) (r2 := 0) (r3 := 0) rfl ?_
            refine wi_icmp (cd := .eq) (nx := 77) (r1 := 91) (r2 := 0) (r3 := 0) rfl (by omega) (by omega) (fun (q24 : x1 = (-1)) => ?_) (fun (q24 : ¬ (x1 = (-1))) => ?_)
            ·
              refine wi_iload_n (i := 3) (e := 2) (nx := 92) (r1 := 0) (r2 := 0) (r3 := 0) rfl rfl ?_
              refine wi_istore_n (i := 2) (e := 2) (lo2 := [(2, vi 2), (4, vi (h 238 100)), (0, .ref 236), (1, vi a0), (3, vi 2)]) (nx := 93) (r1 := 0) (r2 := 0) (r3 := 0) rfl rfl ?_
              refine wr_iincL (i := 3) (n := 1) (v := 2) (3) ([(3, vi 3), (2, vi 2), (4, vi (h 238 100)), (0, .ref 236), (1, vi a0)]) (nx := 96) (r1 := 0) (r2 := 0) (r3 := 0) rfl rfl (by decide) rfl ?_
              refine wi_goto (nx := 99) (r1 := 4) (r2 := 0) (r3 := 0) rfl ?_
              refine wp.lo (lo := [(0, .ref 236), (1, vi a0), (2, vi 2), (3, vi 3)]) ⟨rfl, rfl, rfl, rfl, trivial⟩ rfl ?_
              have cn25 : roomL (h 238) 2 := ⟨(show (2 : Int) + 1 ≤ h 238 1 by omega), (show h 238 100 < h 238 17 by omega)⟩
              exact I3 2 3 h ⟨rfl, (show (-1 ≤ 2 ∧ 2 ≤ 3) ∧ (0 ≤ 3 ∧ 3 ≤ 4) by omega), (laX.yes 2 (by decide) (by omega) cn25)⟩ (show ((4 : Int) + 1 - 3).toNat < ((4 : Int) + 1 - x2).toNat by omega)
            ·
              refine wi_iload (i := 4) (e := h 238 100) (nx := 79) (r1 := 0) (r2 := 0) (r3 := 0) rfl rfl ?_
              refine wi_aload_n (i := 0) (x := 236) (nx := 80) (r1 := 0) (r2 := 0) (r3 := 0) rfl rfl ?_
              refine wr_gr (k0 := 236) (x := 238) (nx := 83) (r1 := 11) (r2 := 13) (r3 := 0) rfl rfl (by decide) rfl ⟨rfl, rfl⟩ rfl ?_
              refine wi_bipush (n := 98) (nx := 85) (r1 := 0) (r2 := 0) (r3 := 0) rfl (by decide) ?_
              refine wi_iload_n (i := 2) (e := x1) (nx := 86) (r1 := 0) (r2 := 0) (r3 := 0) rfl rfl ?_
              refine wr_add (nx := 87) (r1 := 0) (r2 := 0) (r3 := 0) rfl (fun e25 (fe25 : e25 = 98 + x1) => ?_)
              obtain ⟨i26, ei26⟩ : ∃ q : Nat, e25 = (q : Int) := ⟨(e25).toNat, by omega⟩
              have b27 := gi_b (lo := 0) (hi := 6) g 238 i26 (gi_rg 98 4 (fun _ => rfl) (by decide +kernel) (by omega))
              refine wr_ia (k0 := 238) (a := e25) (f := i26) (x := h 238 i26) (nx := 88) (r1 := 0) (r2 := 0) (r3 := 0) rfl (by decide) rfl (by omega) (by omega) (by decide) rfl ?_
              refine wi_icmp (cd := .ge) (nx := 91) (r1 := 93) (r2 := 0) (r3 := 0) rfl (by omega) (by omega) (fun (q28 : (h 238 i26) ≤ (h 238 100)) => ?_) (fun (q28 : ¬ ((h 238 i26) ≤ (h 238 100))) => ?_)
              ·
                refine wr_iincL (i := 3) (n := 1) (v := 2) (3) ([(3, vi 3), (4, vi (h 238 100)), (0, .ref 236), (1, vi a0), (2, vi x1)]) (nx := 96) (r1 := 0) (r2 := 0) (r3 := 0) rfl rfl (by decide) rfl ?_
                refine wi_goto (nx := 99) (r1 := 4) (r2 := 0) (r3 := 0) rfl ?_
                refine wp.lo (lo := [(0, .ref 236), (1, vi a0), (2, vi x1), (3, vi 3)]) ⟨rfl, rfl, rfl, rfl, trivial⟩ rfl ?_
                exact I3 x1 3 h ⟨rfl, (show (-1 ≤ x1 ∧ x1 ≤ 3) ∧ (0 ≤ 3 ∧ 3 ≤ 4) by omega), (laX.keep X3_0 (by omega))⟩ (show ((4 : Int) + 1 - 3).toNat < ((4 : Int) + 1 - x2).toNat by omega)
              ·
                refine wi_iload_n (i := 3) (e := 2) (nx := 92) (r1 := 0) (r2 := 0) (r3 := 0) rfl rfl ?_
                refine wi_istore_n (i := 2) (e := 2) (lo2 := [(2, vi 2), (4, vi (h 238 100)), (0, .ref 236), (1, vi a0), (3, vi 2)]) (nx := 93) (r1 := 0) (r2 := 0) (r3 := 0) rfl rfl ?_
                refine wr_iincL (i := 3) (n := 1) (v := 2) (3) ([(3, vi 3), (2, vi 2), (4, vi (h 238 100)), (0, .ref 236), (1, vi a0)]) (nx := 96) (r1 := 0) (r2 := 0) (r3 := 0) rfl rfl (by decide) rfl ?_
                refine wi_goto (nx := 99) (r1 := 4) (r2 := 0) (r3 := 0) rfl ?_
                refine wp.lo (lo := [(0, .ref 236), (1, vi a0), (2, vi 2), (3, vi 3)]) ⟨rfl, rfl, rfl, rfl, trivial⟩ rfl ?_
                have cn29 : roomL (h 238) 2 := ⟨(show (2 : Int) + 1 ≤ h 238 1 by omega), (show h 238 100 < h 238 17 by omega)⟩
                exact I3 2 3 h ⟨rfl, (show (-1 ≤ 2 ∧ 2 ≤ 3) ∧ (0 ≤ 3 ∧ 3 ≤ 4) by omega), (laX.yes 2 (by decide) (by omega) cn29)⟩ (show ((4 : Int) + 1 - 3).toNat < ((4 : Int) + 1 - x2).toNat by omega)
          ·
            refine wi_iload_n (i := 3) (e := 2) (nx := 71) (r1 := 0) (r2 := 0) (r3 := 0) rfl rfl ?_
            refine wi_ireturn (nx := 72) (r1 := 0) (r2 := 0) (r3 := 0) rfl rfl ?_
            have cn24 : roomL (h 238) 2 := ⟨(show (2 : Int) + 1 ≤ h 238 1 by omega), (show h 238 100 < h 238 17 by omega)⟩
            exact k 2 (by omega) (laX.yes 2 (by decide) (by omega) cn24)
    ·
      rw [q7]
      refine wr_V (k0 := 236) (rest := []) (as := [.ref 236, vi 3]) (nx := 19) (r1 := 277) (r2 := 1) (r3 := 11) rfl rfl rfl (of_decide_eq_true rfl) rfl rfl (by decide) rfl rfl (of_decide_eq_true rfl) (of_decide_eq_true rfl) ?_
      refine wi_aload_n (i := 0) (x := 236) (nx := 1) (r1 := 0) (r2 := 0) (r3 := 0) rfl rfl ?_
      refine wr_gr (k0 := 236) (x := 238) (nx := 4) (r1 := 11) (r2 := 13) (r3 := 0) rfl rfl (by decide) rfl ⟨rfl, rfl⟩ rfl ?_
      refine wi_bipush (n := 98) (nx := 6) (r1 := 0) (r2 := 0) (r3 := 0) rfl (by decide) ?_
      refine wi_iload_n (i := 1) (e := 3) (nx := 7) (r1 := 0) (r2 := 0) (r3 := 0) rfl rfl ?_
      refine wr_addL (101) (nx := 8) (r1 := 0) (r2 := 0) (r3 := 0) rfl (by decide) ?_
      have b8 := gi_b (lo := 0) (hi := 6) g 238 101 rfl
      refine wr_ia (k0 := 238) (a := 101) (f := 101) (x := h 238 101) (nx := 9) (r1 := 0) (r2 := 0) (r3 := 0) rfl (by decide) rfl (by omega) (by omega) (by decide) rfl ?_
      refine wi_aload_n (i := 0) (x := 236) (nx := 10) (r1 := 0) (r2 := 0) (r3 := 0) rfl rfl ?_
      refine wr_gr (k0 := 236) (x := 238) (nx := 13) (r1 := 11) (r2 := 13) (r3 := 0) rfl rfl (by decide) rfl ⟨rfl, rfl⟩ rfl ?_
      refine wi_bipush (n := 15) (nx := 15) (r1 := 0) (r2 := 0) (r3 := 0) rfl (by decide) ?_
      refine wi_iload_n (i := 1) (e := 3) (nx := 16) (r1 := 0) (r2 := 0) (r3 := 0) rfl rfl ?_
      refine wr_addL (18) (nx := 17) (r1 := 0) (r2 := 0) (r3 := 0) rfl (by decide) ?_
      have b9 := gi_b (lo := 0) (hi := 6) g 238 18 rfl
      refine wr_ia (k0 := 238) (a := 18) (f := 18) (x := h 238 18) (nx := 18) (r1 := 0) (r2 := 0) (r3 := 0) rfl (by decide) rfl (by omega) (by omega) (by decide) rfl ?_
      refine wi_icmp (cd := .ge) (nx := 21) (r1 := 25) (r2 := 0) (r3 := 0) rfl (by omega) (by omega) (fun (q10 : (h 238 18) ≤ (h 238 101)) => ?_) (fun (q10 : ¬ ((h 238 18) ≤ (h 238 101))) => ?_)
      ·
        refine wi_iconst (n := 0) (nx := 26) (r1 := 0) (r2 := 0) (r3 := 0) rfl ?_
        refine wi_zreturn (nx := 27) (r1 := 0) (r2 := 0) (r3 := 0) rfl rfl (by omega) ?_
        refine wk_i ?_
        refine wi_if (cd := .ne) (nx := 22) (r1 := 25) (r2 := 0) (r3 := 0) rfl (by omega) (fun (q11 : 0 ≠ 0) => by exfalso; omega) (fun (q11 : ¬ (0 ≠ 0)) => ?_)
        refine wi_goto (nx := 25) (r1 := 93) (r2 := 0) (r3 := 0) rfl ?_
        refine wr_iincL (i := 3) (n := 1) (v := 3) (4) ([(3, vi 4), (0, .ref 236), (1, vi a0), (2, vi x1)]) (nx := 96) (r1 := 0) (r2 := 0) (r3 := 0) rfl rfl (by decide) rfl ?_
        refine wi_goto (nx := 99) (r1 := 4) (r2 := 0) (r3 := 0) rfl ?_
        refine wp.lo (lo := [(0, .ref 236), (1, vi a0), (2, vi x1), (3, vi 4)]) ⟨rfl, rfl, rfl, rfl, trivial⟩ rfl ?_
        have cn12 : ¬ roomL (h 238) 3 := fun c => by
          have c2 : h 238 101 < h 238 18 := c.2
          omega
        exact I3 x1 4 h ⟨rfl, (show (-1 ≤ x1 ∧ x1 ≤ 3) ∧ (0 ≤ 4 ∧ 4 ≤ 4) by omega), (laX.no X3_0 (by omega) 3 (by omega) cn12)⟩ (show ((4 : Int) + 1 - 4).toNat < ((4 : Int) + 1 - x2).toNat by omega)
      ·
        refine wi_iconst (n := 1) (nx := 22) (r1 := 0) (r2 := 0) (r3 := 0) rfl ?_
        refine wi_goto (nx := 25) (r1 := 26) (r2 := 0) (r3 := 0) rfl ?_
        refine wi_zreturn (nx := 27) (r1 := 0) (r2 := 0) (r3 := 0) rfl rfl (by omega) ?_
        refine wk_i ?_
        refine wi_if (cd := .ne) (nx := 22) (r1 := 25) (r2 := 0) (r3 := 0) rfl (by omega) (fun (q11 : 1 ≠ 0) => ?_) (fun (q11 : ¬ (1 ≠ 0)) => by exfalso; omega)
        refine wi_aload_n (i := 0) (x := 236) (nx := 26) (r1 := 0) (r2 := 0) (r3 := 0) rfl rfl ?_
        refine wr_gr (k0 := 236) (x := 238) (nx := 29) (r1 := 11) (r2 := 13) (r3 := 0) rfl rfl (by decide) rfl ⟨rfl, rfl⟩ rfl ?_
        refine wi_bipush (n := 98) (nx := 31) (r1 := 0) (r2 := 0) (r3 := 0) rfl (by decide) ?_
        refine wi_iload_n (i := 3) (e := 3) (nx := 32) (r1 := 0) (r2 := 0) (r3 := 0) rfl rfl ?_
        refine wr_addL (101) (nx := 33) (r1 := 0) (r2 := 0) (r3 := 0) rfl (by decide) ?_
        refine wr_ia (k0 := 238) (a := 101) (f := 101) (x := h 238 101) (nx := 34) (r1 := 0) (r2 := 0) (r3 := 0) rfl (by decide) rfl (by omega) (by omega) (by decide) rfl ?_
        refine wi_istore (i := 4) (e := h 238 101) (lo2 := [(4, vi (h 238 101)), (0, .ref 236), (1, vi a0), (2, vi x1), (3, vi 3)]) (nx := 36) (r1 := 0) (r2 := 0) (r3 := 0) rfl rfl ?_
        refine wi_iload (i := 4) (e := h 238 101) (nx := 38) (r1 := 0) (r2 := 0) (r3 := 0) rfl rfl ?_
        refine wi_if (cd := .le) (nx := 41) (r1 := 72) (r2 := 0) (r3 := 0) rfl (by omega) (fun (q12 : (h 238 101) ≤ 0) => ?_) (fun (q12 : ¬ ((h 238 101) ≤ 0)) => ?_)
        ·
          refine wi_iload_n (i := 2) (e := x1) (nx := 73) (r1 := 0) (r2 := 0) (r3 := 0) rfl rfl ?_
          refine wi_iconst (n := (-1)) (nx := 74) (r1 := 0) (r2 := 0) (r3 := 0) rfl ?_
          refine wi_icmp (cd := .eq) (nx := 77) (r1 := 91) (r2 := 0) (r3 := 0) rfl (by omega) (by omega) (fun (q13 : x1 = (-1)) => ?_) (fun (q13 : ¬ (x1 = (-1))) => ?_)
          ·
            refine wi_iload_n (i := 3) (e := 3) (nx := 92) (r1 := 0) (r2 := 0) (r3 := 0) rfl rfl ?_
            refine wi_istore_n (i := 2) (e := 3) (lo2 := [(2, vi 3), (4, vi (h 238 101)), (0, .ref 236), (1, vi a0), (3, vi 3)]) (nx := 93) (r1 := 0) (r2 := 0) (r3 := 0) rfl rfl ?_
            refine wr_iincL (i := 3) (n := 1) (v := 3) (4) ([(3, vi 4), (2, vi 3), (4, vi (h 238 101)), (0, .ref 236), (1, vi a0)]) (nx := 96) (r1 := 0) (r2 := 0) (r3 := 0) rfl rfl (by decide) rfl ?_
            refine wi_goto (nx := 99) (r1 := 4) (r2 := 0) (r3 := 0) rfl ?_
            refine wp.lo (lo := [(0, .ref 236), (1, vi a0), (2, vi 3), (3, vi 4)]) ⟨rfl, rfl, rfl, rfl, trivial⟩ rfl ?_
            have cn14 : roomL (h 238) 3 := ⟨(show (3 : Int) + 1 ≤ h 238 1 by omega), (show h 238 101 < h 238 18 by omega)⟩
            exact I3 3 4 h ⟨rfl, (show (-1 ≤ 3 ∧ 3 ≤ 3) ∧ (0 ≤ 4 ∧ 4 ≤ 4) by omega), (laX.yes 3 (by decide) (by omega) cn14)⟩ (show ((4 : Int) + 1 - 4).toNat < ((4 : Int) + 1 - x2).toNat by omega)
          ·
            refine wi_iload (i := 4) (e := h 238 101) (nx := 79) (r1 := 0) (r2 := 0) (r3 := 0) rfl rfl ?_
            refine wi_aload_n (i := 0) (x := 236) (nx := 80) (r1 := 0) (r2 := 0) (r3 := 0) rfl rfl ?_
            refine wr_gr (k0 := 236) (x := 238) (nx := 83) (r1 := 11) (r2 := 13) (r3 := 0) rfl rfl (by decide) rfl ⟨rfl, rfl⟩ rfl ?_
            refine wi_bipush (n := 98) (nx := 85) (r1 := 0) (r2 := 0) (r3 := 0) rfl (by decide) ?_
            refine wi_iload_n (i := 2) (e := x1) (nx := 86) (r1 := 0) (r2 := 0) (r3 := 0) rfl rfl ?_
            refine wr_add (nx := 87) (r1 := 0) (r2 := 0) (r3 := 0) rfl (fun e14 (fe14 : e14 = 98 + x1) => ?_)
            obtain ⟨i15, ei15⟩ : ∃ q : Nat, e14 = (q : Int) := ⟨(e14).toNat, by omega⟩
            have b16 := gi_b (lo := 0) (hi := 6) g 238 i15 (gi_rg 98 4 (fun _ => rfl) (by decide +kernel) (by omega))
            refine wr_ia (k0 := 238) (a := e14) (f := i15) (x := h 238 i15) (nx := 88) (r1 := 0) (r2 := 0) (r3 := 0) rfl (by decide) rfl (by omega) (by omega) (by decide) rfl ?_
            refine wi_icmp (cd := .ge) (nx := 91) (r1 := 93) (r2 := 0) (r3 := 0) rfl (by omega) (by omega) (fun (q17 : (h 238 i15) ≤ (h 238 101)) => ?_) (fun (q17 : ¬ ((h 238 i15) ≤ (h 238 101))) => ?_)
            ·
              refine wr_iincL (i := 3) (n := 1) (v := 3) (4) ([(3, vi 4), (4, vi (h 238 101)), (0, .ref 236), (1, vi a0), (2, vi x1)]) (nx := 96) (r1 := 0) (r2 := 0) (r3 := 0) rfl rfl (by decide) rfl ?_
              refine wi_goto (nx := 99) (r1 := 4) (r2 := 0) (r3 := 0) rfl ?_
              refine wp.lo (lo := [(0, .ref 236), (1, vi a0), (2, vi x1), (3, vi 4)]) ⟨rfl, rfl, rfl, rfl, trivial⟩ rfl ?_
              exact I3 x1 4 h ⟨rfl, (show (-1 ≤ x1 ∧ x1 ≤ 3) ∧ (0 ≤ 4 ∧ 4 ≤ 4) by omega), (laX.keep X3_0 (by omega))⟩ (show ((4 : Int) + 1 - 4).toNat < ((4 : Int) + 1 - x2).toNat by omega)
            ·
              refine wi_iload_n (i := 3) (e := 3) (nx := 92) (r1 := 0) (r2 := 0) (r3 := 0) rfl rfl ?_
              refine wi_istore_n (i := 2) (e := 3) (lo2 := [(2, vi 3), (4, vi (h 238 101)), (0, .ref 236), (1, vi a0), (3, vi 3)]) (nx := 93) (r1 := 0) (r2 := 0) (r3 := 0) rfl rfl ?_
              refine wr_iincL (i := 3) (n := 1) (v := 3) (4) ([(3, vi 4), (2, vi 3), (4, vi (h 238 101)), (0, .ref 236), (1, vi a0)]) (nx := 96) (r1 := 0) (r2 := 0) (r3 := 0) rfl rfl (by decide) rfl ?_
              refine wi_goto (nx := 99) (r1 := 4) (r2 := 0) (r3 := 0) rfl ?_
              refine wp.lo (lo := [(0, .ref 236), (1, vi a0), (2, vi 3), (3, vi 4)]) ⟨rfl, rfl, rfl, rfl, trivial⟩ rfl ?_
              have cn18 : roomL (h 238) 3 := ⟨(show (3 : Int) + 1 ≤ h 238 1 by omega), (show h 238 101 < h 238 18 by omega)⟩
              exact I3 3 4 h ⟨rfl, (show (-1 ≤ 3 ∧ 3 ≤ 3) ∧ (0 ≤ 4 ∧ 4 ≤ 4) by omega), (laX.yes 3 (by decide) (by omega) cn18)⟩ (show ((4 : Int) + 1 - 4).toNat < ((4 : Int) + 1 - x2).toNat by omega)
        ·
          refine wi_aload_n (i := 0) (x := 236) (nx := 42) (r1 := 0) (r2 := 0) (r3 := 0) rfl rfl ?_
          refine wr_gr (k0 := 236) (x := 238) (nx := 45) (r1 := 11) (r2 := 13) (r3 := 0) rfl rfl (by decide) rfl ⟨rfl, rfl⟩ rfl ?_
          refine wi_bipush (n := 31) (nx := 47) (r1 := 0) (r2 := 0) (r3 := 0) rfl (by decide) ?_
          refine wi_aload_n (i := 0) (x := 236) (nx := 48) (r1 := 0) (r2 := 0) (r3 := 0) rfl rfl ?_
          refine wi_iload_n (i := 3) (e := 3) (nx := 49) (r1 := 0) (r2 := 0) (r3 := 0) rfl rfl ?_
          refine wi_iload (i := 4) (e := h 238 101) (nx := 51) (r1 := 0) (r2 := 0) (r3 := 0) rfl rfl ?_
          refine wi_iconst (n := 1) (nx := 52) (r1 := 0) (r2 := 0) (r3 := 0) rfl ?_
          refine wr_sub (nx := 53) (r1 := 0) (r2 := 0) (r3 := 0) rfl (fun e13 (fe13 : e13 = (h 238 101) - 1) => ?_)
          refine wr_V (k0 := 236) (rest := [vi 31, .ref 238]) (as := [.ref 236, vi 3, vi e13]) (nx := 56) (r1 := 258) (r2 := 2) (r3 := 11) rfl rfl rfl (of_decide_eq_true rfl) rfl rfl (by decide) rfl rfl (of_decide_eq_true rfl) (of_decide_eq_true rfl) ?_
          refine wi_aload_n (i := 0) (x := 236) (nx := 1) (r1 := 0) (r2 := 0) (r3 := 0) rfl rfl ?_
          refine wr_gr (k0 := 236) (x := 238) (nx := 4) (r1 := 11) (r2 := 13) (r3 := 0) rfl rfl (by decide) rfl ⟨rfl, rfl⟩ rfl ?_
          refine wi_bipush (n := 74) (nx := 6) (r1 := 0) (r2 := 0) (r3 := 0) rfl (by decide) ?_
          refine wi_bipush (n := 6) (nx := 8) (r1 := 0) (r2 := 0) (r3 := 0) rfl (by decide) ?_
          refine wi_iload_n (i := 1) (e := 3) (nx := 9) (r1 := 0) (r2 := 0) (r3 := 0) rfl rfl ?_
          refine wr_mulL (18) (nx := 10) (r1 := 0) (r2 := 0) (r3 := 0) rfl (by decide) ?_
          refine wr_addL (92) (nx := 11) (r1 := 0) (r2 := 0) (r3 := 0) rfl (by decide) ?_
          refine wi_iload_n (i := 2) (e := e13) (nx := 12) (r1 := 0) (r2 := 0) (r3 := 0) rfl rfl ?_
          refine wr_add (nx := 13) (r1 := 0) (r2 := 0) (r3 := 0) rfl (fun e14 (fe14 : e14 = 92 + e13) => ?_)
          obtain ⟨i15, ei15⟩ : ∃ q : Nat, e14 = (q : Int) := ⟨(e14).toNat, by omega⟩
          have b16 := gi_b (lo := 0) (hi := 11) g 238 i15 (gi_rg 92 5 (fun _ => rfl) (by decide +kernel) (by omega))
          refine wr_ia (k0 := 238) (a := e14) (f := i15) (x := h 238 i15) (nx := 14) (r1 := 0) (r2 := 0) (r3 := 0) rfl (by decide) rfl (by omega) (by omega) (by decide) rfl ?_
          refine wi_ireturn (nx := 15) (r1 := 0) (r2 := 0) (r3 := 0) rfl rfl ?_
          refine wk_i ?_
          refine wr_add (nx := 57) (r1 := 0) (r2 := 0) (r3 := 0) rfl (fun e17 (fe17 : e17 = 31 + (h 238 i15)) => ?_)
          obtain ⟨i18, ei18⟩ : ∃ q : Nat, e17 = (q : Int) := ⟨(e17).toNat, by omega⟩
          have b19 := gi_b (lo := 0) (hi := 4) g 238 i18 (gi_rg 31 12 (fun _ => rfl) (by decide +kernel) (by omega))
          refine wr_ia (k0 := 238) (a := e17) (f := i18) (x := h 238 i18) (nx := 58) (r1 := 0) (r2 := 0) (r3 := 0) rfl (by decide) rfl (by omega) (by omega) (by decide) rfl ?_
          refine wi_aload_n (i := 0) (x := 236) (nx := 59) (r1 := 0) (r2 := 0) (r3 := 0) rfl rfl ?_
          refine wr_gr (k0 := 236) (x := 238) (nx := 62) (r1 := 11) (r2 := 13) (r3 := 0) rfl rfl (by decide) rfl ⟨rfl, rfl⟩ rfl ?_
          refine wi_bipush (n := 31) (nx := 64) (r1 := 0) (r2 := 0) (r3 := 0) rfl (by decide) ?_
          refine wi_iload_n (i := 1) (e := a0) (nx := 65) (r1 := 0) (r2 := 0) (r3 := 0) rfl rfl ?_
          refine wr_add (nx := 66) (r1 := 0) (r2 := 0) (r3 := 0) rfl (fun e20 (fe20 : e20 = 31 + a0) => ?_)
          obtain ⟨i21, ei21⟩ : ∃ q : Nat, e20 = (q : Int) := ⟨(e20).toNat, by omega⟩
          have b22 := gi_b (lo := 0) (hi := 4) g 238 i21 (gi_rg 31 12 (fun _ => rfl) (by decide +kernel) (by omega))
          refine wr_ia (k0 := 238) (a := e20) (f := i21) (x := h 238 i21) (nx := 67) (r1 := 0) (r2 := 0) (r3 := 0) rfl (by decide) rfl (by omega) (by omega) (by decide) rfl ?_
          refine wi_icmp (cd := .ne) (nx := 70) (r1 := 72) (r2 := 0) (r3 := 0) rfl (by omega) (by omega) (fun (q23 : (h 238 i18) ≠ (h 238 i21)) => ?_) (fun (q23 : ¬ ((h 238 i18) ≠ (h 238 i21))) => ?_)
          ·
            refine wi_iload_n (i := 2) (e := x1) (nx := 73) (r1 := 0) (r2 := 0) (r3 := 0) rfl rfl ?_
            refine wi_iconst (n := (-1)) (nx := 74) (r1 := 0) (r2 := 0) (r3 := 0) rfl ?_
            refine wi_icmp (cd := .eq) (nx := 77) (r1 := 91) (r2 := 0) (r3 := 0) rfl (by omega) (by omega) (fun (q24 : x1 = (-1)) => ?_) (fun (q24 : ¬ (x1 = (-1))) => ?_)
            ·
              refine wi_iload_n (i := 3) (e := 3) (nx := 92) (r1 := 0) (r2 := 0) (r3 := 0) rfl rfl ?_
              refine wi_istore_n (i := 2) (e := 3) (lo2 := [(2, vi 3), (4, vi (h 238 101)), (0, .ref 236), (1, vi a0), (3, vi 3)]) (nx := 93) (r1 := 0) (r2 := 0) (r3 := 0) rfl rfl ?_
              refine wr_iincL (i := 3) (n := 1) (v := 3) (4) ([(3, vi 4), (2, vi 3), (4, vi (h 238 101)), (0, .ref 236), (1, vi a0)]) (nx := 96) (r1 := 0) (r2 := 0) (r3 := 0) rfl rfl (by decide) rfl ?_
              refine wi_goto (nx := 99) (r1 := 4) (r2 := 0) (r3 := 0) rfl ?_
              refine wp.lo (lo := [(0, .ref 236), (1, vi a0), (2, vi 3), (3, vi 4)]) ⟨rfl, rfl, rfl, rfl, trivial⟩ rfl ?_
              have cn25 : roomL (h 238) 3 := ⟨(show (3 : Int) + 1 ≤ h 238 1 by omega), (show h 238 101 < h 238 18 by omega)⟩
              exact I3 3 4 h ⟨rfl, (show (-1 ≤ 3 ∧ 3 ≤ 3) ∧ (0 ≤ 4 ∧ 4 ≤ 4) by omega), (laX.yes 3 (by decide) (by omega) cn25)⟩ (show ((4 : Int) + 1 - 4).toNat < ((4 : Int) + 1 - x2).toNat by omega)
            ·
              refine wi_iload (i := 4) (e := h 238 101) (nx := 79) (r1 := 0) (r2 := 0) (r3 := 0) rfl rfl ?_
              refine wi_aload_n (i := 0) (x := 236) (nx := 80) (r1 := 0) (r2 := 0) (r3 := 0) rfl rfl ?_
              refine wr_gr (k0 := 236) (x := 238) (nx := 83) (r1 := 11) (r2 := 13) (r3 := 0) rfl rfl (by decide) rfl ⟨rfl, rfl⟩ rfl ?_
              refine wi_bipush (n := 98) (nx := 85) (r1 := 0) (r2 := 0) (r3 := 0) rfl (by decide) ?_
              refine wi_iload_n (i := 2) (e := x1) (nx := 86) (r1 := 0) (r2 := 0) (r3 := 0) rfl rfl ?_
              refine wr_add (nx := 87) (r1 := 0) (r2 := 0) (r3 := 0) rfl (fun e25 (fe25 : e25 = 98 + x1) => ?_)
              obtain ⟨i26, ei26⟩ : ∃ q : Nat, e25 = (q : Int) := ⟨(e25).toNat, by omega⟩
              have b27 := gi_b (lo := 0) (hi := 6) g 238 i26 (gi_rg 98 4 (fun _ => rfl) (by decide +kernel) (by omega))
              refine wr_ia (k0 := 238) (a := e25) (f := i26) (x := h 238 i26) (nx := 88) (r1 := 0) (r2 := 0) (r3 := 0) rfl (by decide) rfl (by omega) (by omega) (by decide) rfl ?_
              refine wi_icmp (cd := .ge) (nx := 91) (r1 := 93) (r2 := 0) (r3 := 0) rfl (by omega) (by omega) (fun (q28 : (h 238 i26) ≤ (h 238 101)) => ?_) (fun (q28 : ¬ ((h 238 i26) ≤ (h 238 101))) => ?_)
              ·
                refine wr_iincL (i := 3) (n := 1) (v := 3) (4) ([(3, vi 4), (4, vi (h 238 101)), (0, .ref 236), (1, vi a0), (2, vi x1)]) (nx := 96) (r1 := 0) (r2 := 0) (r3 := 0) rfl rfl (by decide) rfl ?_
                refine wi_goto (nx := 99) (r1 := 4) (r2 := 0) (r3 := 0) rfl ?_
                refine wp.lo (lo := [(0, .ref 236), (1, vi a0), (2, vi x1), (3, vi 4)]) ⟨rfl, rfl, rfl, rfl, trivial⟩ rfl ?_
                exact I3 x1 4 h ⟨rfl, (show (-1 ≤ x1 ∧ x1 ≤ 3) ∧ (0 ≤ 4 ∧ 4 ≤ 4) by omega), (laX.keep X3_0 (by omega))⟩ (show ((4 : Int) + 1 - 4).toNat < ((4 : Int) + 1 - x2).toNat by omega)
              ·
                refine wi_iload_n (i := 3) (e := 3) (nx := 92) (r1 := 0) (r2 := 0) (r3 := 0) rfl rfl ?_
                refine wi_istore_n (i := 2) (e := 3) (lo2 := [(2, vi 3), (4, vi (h 238 101)), (0, .ref 236), (1, vi a0), (3, vi 3)]) (nx := 93) (r1 := 0) (r2 := 0) (r3 := 0) rfl rfl ?_
                refine wr_iincL (i := 3) (n := 1) (v := 3) (4) ([(3, vi 4), (2, vi 3), (4, vi (h 238 101)), (0, .ref 236), (1, vi a0)]) (nx := 96) (r1 := 0) (r2 := 0) (r3 := 0) rfl rfl (by decide) rfl ?_
                refine wi_goto (nx := 99) (r1 := 4) (r2 := 0) (r3 := 0) rfl ?_
                refine wp.lo (lo := [(0, .ref 236), (1, vi a0), (2, vi 3), (3, vi 4)]) ⟨rfl, rfl, rfl, rfl, trivial⟩ rfl ?_
                have cn29 : roomL (h 238) 3 := ⟨(show (3 : Int) + 1 ≤ h 238 1 by omega), (show h 238 101 < h 238 18 by omega)⟩
                exact I3 3 4 h ⟨rfl, (show (-1 ≤ 3 ∧ 3 ≤ 3) ∧ (0 ≤ 4 ∧ 4 ≤ 4) by omega), (laX.yes 3 (by decide) (by omega) cn29)⟩ (show ((4 : Int) + 1 - 4).toNat < ((4 : Int) + 1 - x2).toNat by omega)
          ·
            refine wi_iload_n (i := 3) (e := 3) (nx := 71) (r1 := 0) (r2 := 0) (r3 := 0) rfl rfl ?_
            refine wi_ireturn (nx := 72) (r1 := 0) (r2 := 0) (r3 := 0) rfl rfl ?_
            have cn24 : roomL (h 238) 3 := ⟨(show (3 : Int) + 1 ≤ h 238 1 by omega), (show h 238 101 < h 238 18 by omega)⟩
            exact k 3 (by omega) (laX.yes 3 (by decide) (by omega) cn24)
-- method 297: Model.laneFor(I)I
set_option maxRecDepth 100000 in
set_option maxHeartbeats 100000000 in
theorem ct_297_236 {L : Nat} {xs : Nat → Int32} {d b c : Nat} {h : hp} {cr : Nat → Nat → Option Nat} {Q : hp_Q} (hcr : CR cr)  (g : GI h) (a0 : Int) (q0_ : -2147483648 ≤ a0 ∧ a0 ≤ 2147483647)  (k : ∀ (h2 : hp) (z0 : Int) , GI h2 → FR [(236, 236, some (0, 0))] h h2 → (-1 ≤ z0 ∧ z0 ≤ 3) → Q (.inl (some (vi z0))) (hp_w h2 cr) b c) : wp (md_xa (L, xs)) (d + 2) 297 (0, [(0, .ref 236), (1, vi a0)], [], hp_w h cr, b, c) Q := by
  have F0 : FR [(236, 236, some (0, 0))] h h := FR.refl
  refine wi_aload_n (i := 0) (x := 236) (nx := 1) (r1 := 0) (r2 := 0) (r3 := 0) rfl rfl ?_
  refine wi_aload_n (i := 0) (x := 236) (nx := 2) (r1 := 0) (r2 := 0) (r3 := 0) rfl rfl ?_
  refine wi_iload_n (i := 1) (e := a0) (nx := 3) (r1 := 0) (r2 := 0) (r3 := 0) rfl rfl ?_
  refine wr_V (k0 := 236) (rest := [.ref 236]) (as := [.ref 236, vi a0]) (nx := 6) (r1 := 244) (r2 := 1) (r3 := 11) rfl rfl rfl (of_decide_eq_true rfl) rfl rfl (by decide) rfl rfl (of_decide_eq_true rfl) (of_decide_eq_true rfl) ?_
  refine wi_iload_n (i := 1) (e := a0) (nx := 1) (r1 := 0) (r2 := 0) (r3 := 0) rfl rfl ?_
  refine wi_i2l (nx := 2) (r1 := 0) (r2 := 0) (r3 := 0) rfl (by omega) ?_
  refine wi_lconst (n := 0) (e := 0) (nx := 3) (r1 := 0) (r2 := 0) (r3 := 0) rfl (by decide) ?_
  refine wi_aload_n (i := 0) (x := 236) (nx := 4) (r1 := 0) (r2 := 0) (r3 := 0) rfl rfl ?_
  refine wr_gr (k0 := 236) (x := 238) (nx := 7) (r1 := 11) (r2 := 13) (r3 := 0) rfl rfl (by decide) rfl ⟨rfl, rfl⟩ rfl ?_
  refine wi_iconst (n := 2) (nx := 8) (r1 := 0) (r2 := 0) (r3 := 0) rfl ?_
  have b1 := gi_b (lo := 0) (hi := 12) g 238 2 rfl
  refine wr_ia (k0 := 238) (a := 2) (f := 2) (x := h 238 2) (nx := 9) (r1 := 0) (r2 := 0) (r3 := 0) rfl (by decide) rfl (by omega) (by omega) (by decide) rfl ?_
  refine wi_iconst (n := 1) (nx := 10) (r1 := 0) (r2 := 0) (r3 := 0) rfl ?_
  refine wr_sub (nx := 11) (r1 := 0) (r2 := 0) (r3 := 0) rfl (fun e2 (fe2 : e2 = (h 238 2) - 1) => ?_)
  refine wi_i2l (nx := 12) (r1 := 0) (r2 := 0) (r3 := 0) rfl (by omega) ?_
  refine wi_S (rest := []) (as := [vl a0, vl 0, vl e2]) (nx := 15) (r1 := 210) (r2 := 19) (r3 := 0) rfl rfl rfl (of_decide_eq_true rfl) rfl rfl (of_decide_eq_true rfl) (of_decide_eq_true rfl) ?_
  refine wi_lload_n (i := 0) (e := a0) (nx := 1) (r1 := 0) (r2 := 0) (r3 := 0) rfl rfl ?_
  refine wi_lload_n (i := 2) (e := 0) (nx := 2) (r1 := 0) (r2 := 0) (r3 := 0) rfl rfl ?_
  refine wi_lcmp (a := a0) (e := 0) (nx := 3) (r1 := 0) (r2 := 0) (r3 := 0) rfl (by omega) (by omega) (fun r3 (fr3 : (r3 = -1 ∧ a0 < 0) ∨ (r3 = 0 ∧ a0 = 0) ∨ (r3 = 1 ∧ 0 < a0)) => ?_)
  refine wi_if (cd := .lt) (nx := 6) (r1 := 17) (r2 := 0) (r3 := 0) rfl (by omega) (fun (q4 : r3 < 0) => ?_) (fun (q4 : ¬ (r3 < 0)) => ?_)
  ·
    refine wi_iconst (n := 0) (nx := 18) (r1 := 0) (r2 := 0) (r3 := 0) rfl ?_
    refine wi_zreturn (nx := 19) (r1 := 0) (r2 := 0) (r3 := 0) rfl rfl (by omega) ?_
    refine wk_i ?_
    refine wi_zreturn (nx := 16) (r1 := 0) (r2 := 0) (r3 := 0) rfl rfl (by omega) ?_
    refine wk_i ?_
    refine wr_V (k0 := 236) (rest := []) (as := [.ref 236, vi 0]) (nx := 9) (r1 := 206) (r2 := 1) (r3 := 11) rfl rfl rfl (of_decide_eq_true rfl) rfl rfl (by decide) rfl rfl (of_decide_eq_true rfl) (of_decide_eq_true rfl) ?_
    refine wi_aload_n (i := 0) (x := 236) (nx := 1) (r1 := 0) (r2 := 0) (r3 := 0) rfl rfl ?_
    refine wi_iload_n (i := 1) (e := 0) (nx := 2) (r1 := 0) (r2 := 0) (r3 := 0) rfl rfl ?_
    refine wi_if (cd := .ne) (nx := 5) (r1 := 9) (r2 := 0) (r3 := 0) rfl (by omega) (fun (q5 : 0 ≠ 0) => by exfalso; omega) (fun (q5 : ¬ (0 ≠ 0)) => ?_)
    refine wi_iconst (n := 1) (nx := 6) (r1 := 0) (r2 := 0) (r3 := 0) rfl ?_
    refine wi_goto (nx := 9) (r1 := 10) (r2 := 0) (r3 := 0) rfl ?_
    refine wi_S (rest := [.ref 236]) (as := [vi 1]) (nx := 13) (r1 := 207) (r2 := 17) (r3 := 0) rfl rfl rfl (of_decide_eq_true rfl) rfl rfl (of_decide_eq_true rfl) (of_decide_eq_true rfl) ?_
    refine wi_iload_n (i := 0) (e := 1) (nx := 1) (r1 := 0) (r2 := 0) (r3 := 0) rfl rfl ?_
    refine wi_if (cd := .eq) (nx := 4) (r1 := 8) (r2 := 0) (r3 := 0) rfl (by omega) (fun (q6 : 1 = 0) => by exfalso; omega) (fun (q6 : ¬ (1 = 0)) => ?_)
    refine wi_iconst (n := 1) (nx := 5) (r1 := 0) (r2 := 0) (r3 := 0) rfl ?_
    refine wi_goto (nx := 8) (r1 := 9) (r2 := 0) (r3 := 0) rfl ?_
    refine wi_ireturn (nx := 10) (r1 := 0) (r2 := 0) (r3 := 0) rfl rfl ?_
    refine wk_i ?_
    refine wr_pf0 (k0 := 236) (x := 1) (bl := 0) (bh := 2) (nx := 16) (r1 := 11) (r2 := 0) (r3 := 0) rfl (by decide) rfl ⟨rfl, rfl⟩ rfl rfl g rfl (by omega) (fun h7 g7 w7 u7 => ?_)
    have F8 := F0.then rfl u7
    refine wi_iload_n (i := 1) (e := 0) (nx := 17) (r1 := 0) (r2 := 0) (r3 := 0) rfl rfl ?_
    refine wi_zreturn (nx := 18) (r1 := 0) (r2 := 0) (r3 := 0) rfl rfl (by omega) ?_
    refine wk_i ?_
    refine wi_if (cd := .eq) (nx := 12) (r1 := 20) (r2 := 0) (r3 := 0) rfl (by omega) (fun (q9 : 0 = 0) => ?_) (fun (q9 : ¬ (0 = 0)) => by exfalso; omega)
    refine wi_iconst (n := 0) (nx := 21) (r1 := 0) (r2 := 0) (r3 := 0) rfl ?_
    refine wi_ireturn (nx := 22) (r1 := 0) (r2 := 0) (r3 := 0) rfl rfl ?_
    exact k h7 0 g7 F8 (by omega)
  ·
    refine wi_lload_n (i := 0) (e := a0) (nx := 7) (r1 := 0) (r2 := 0) (r3 := 0) rfl rfl ?_
    refine wi_lload (i := 4) (e := e2) (nx := 9) (r1 := 0) (r2 := 0) (r3 := 0) rfl rfl ?_
    refine wi_lcmp (a := a0) (e := e2) (nx := 10) (r1 := 0) (r2 := 0) (r3 := 0) rfl (by omega) (by omega) (fun r5 (fr5 : (r5 = -1 ∧ a0 < e2) ∨ (r5 = 0 ∧ a0 = e2) ∨ (r5 = 1 ∧ e2 < a0)) => ?_)
    refine wi_if (cd := .gt) (nx := 13) (r1 := 17) (r2 := 0) (r3 := 0) rfl (by omega) (fun (q6 : 0 < r5) => ?_) (fun (q6 : ¬ (0 < r5)) => ?_)
    ·
      refine wi_iconst (n := 0) (nx := 18) (r1 := 0) (r2 := 0) (r3 := 0) rfl ?_
      refine wi_zreturn (nx := 19) (r1 := 0) (r2 := 0) (r3 := 0) rfl rfl (by omega) ?_
      refine wk_i ?_
      refine wi_zreturn (nx := 16) (r1 := 0) (r2 := 0) (r3 := 0) rfl rfl (by omega) ?_
      refine wk_i ?_
      refine wr_V (k0 := 236) (rest := []) (as := [.ref 236, vi 0]) (nx := 9) (r1 := 206) (r2 := 1) (r3 := 11) rfl rfl rfl (of_decide_eq_true rfl) rfl rfl (by decide) rfl rfl (of_decide_eq_true rfl) (of_decide_eq_true rfl) ?_
      refine wi_aload_n (i := 0) (x := 236) (nx := 1) (r1 := 0) (r2 := 0) (r3 := 0) rfl rfl ?_
      refine wi_iload_n (i := 1) (e := 0) (nx := 2) (r1 := 0) (r2 := 0) (r3 := 0) rfl rfl ?_
      refine wi_if (cd := .ne) (nx := 5) (r1 := 9) (r2 := 0) (r3 := 0) rfl (by omega) (fun (q7 : 0 ≠ 0) => by exfalso; omega) (fun (q7 : ¬ (0 ≠ 0)) => ?_)
      refine wi_iconst (n := 1) (nx := 6) (r1 := 0) (r2 := 0) (r3 := 0) rfl ?_
      refine wi_goto (nx := 9) (r1 := 10) (r2 := 0) (r3 := 0) rfl ?_
      refine wi_S (rest := [.ref 236]) (as := [vi 1]) (nx := 13) (r1 := 207) (r2 := 17) (r3 := 0) rfl rfl rfl (of_decide_eq_true rfl) rfl rfl (of_decide_eq_true rfl) (of_decide_eq_true rfl) ?_
      refine wi_iload_n (i := 0) (e := 1) (nx := 1) (r1 := 0) (r2 := 0) (r3 := 0) rfl rfl ?_
      refine wi_if (cd := .eq) (nx := 4) (r1 := 8) (r2 := 0) (r3 := 0) rfl (by omega) (fun (q8 : 1 = 0) => by exfalso; omega) (fun (q8 : ¬ (1 = 0)) => ?_)
      refine wi_iconst (n := 1) (nx := 5) (r1 := 0) (r2 := 0) (r3 := 0) rfl ?_
      refine wi_goto (nx := 8) (r1 := 9) (r2 := 0) (r3 := 0) rfl ?_
      refine wi_ireturn (nx := 10) (r1 := 0) (r2 := 0) (r3 := 0) rfl rfl ?_
      refine wk_i ?_
      refine wr_pf0 (k0 := 236) (x := 1) (bl := 0) (bh := 2) (nx := 16) (r1 := 11) (r2 := 0) (r3 := 0) rfl (by decide) rfl ⟨rfl, rfl⟩ rfl rfl g rfl (by omega) (fun h9 g9 w9 u9 => ?_)
      have F10 := F0.then rfl u9
      refine wi_iload_n (i := 1) (e := 0) (nx := 17) (r1 := 0) (r2 := 0) (r3 := 0) rfl rfl ?_
      refine wi_zreturn (nx := 18) (r1 := 0) (r2 := 0) (r3 := 0) rfl rfl (by omega) ?_
      refine wk_i ?_
      refine wi_if (cd := .eq) (nx := 12) (r1 := 20) (r2 := 0) (r3 := 0) rfl (by omega) (fun (q11 : 0 = 0) => ?_) (fun (q11 : ¬ (0 = 0)) => by exfalso; omega)
      refine wi_iconst (n := 0) (nx := 21) (r1 := 0) (r2 := 0) (r3 := 0) rfl ?_
      refine wi_ireturn (nx := 22) (r1 := 0) (r2 := 0) (r3 := 0) rfl rfl ?_
      exact k h9 0 g9 F10 (by omega)
    ·
      refine wi_iconst (n := 1) (nx := 14) (r1 := 0) (r2 := 0) (r3 := 0) rfl ?_
      refine wi_goto (nx := 17) (r1 := 18) (r2 := 0) (r3 := 0) rfl ?_
      refine wi_zreturn (nx := 19) (r1 := 0) (r2 := 0) (r3 := 0) rfl rfl (by omega) ?_
      refine wk_i ?_
      refine wi_zreturn (nx := 16) (r1 := 0) (r2 := 0) (r3 := 0) rfl rfl (by omega) ?_
      refine wk_i ?_
      refine wr_V (k0 := 236) (rest := []) (as := [.ref 236, vi 1]) (nx := 9) (r1 := 206) (r2 := 1) (r3 := 11) rfl rfl rfl (of_decide_eq_true rfl) rfl rfl (by decide) rfl rfl (of_decide_eq_true rfl) (of_decide_eq_true rfl) ?_
      refine wi_aload_n (i := 0) (x := 236) (nx := 1) (r1 := 0) (r2 := 0) (r3 := 0) rfl rfl ?_
      refine wi_iload_n (i := 1) (e := 1) (nx := 2) (r1 := 0) (r2 := 0) (r3 := 0) rfl rfl ?_
      refine wi_if (cd := .ne) (nx := 5) (r1 := 9) (r2 := 0) (r3 := 0) rfl (by omega) (fun (q7 : 1 ≠ 0) => ?_) (fun (q7 : ¬ (1 ≠ 0)) => by exfalso; omega)
      refine wi_iconst (n := 0) (nx := 10) (r1 := 0) (r2 := 0) (r3 := 0) rfl ?_
      refine wi_S (rest := [.ref 236]) (as := [vi 0]) (nx := 13) (r1 := 207) (r2 := 17) (r3 := 0) rfl rfl rfl (of_decide_eq_true rfl) rfl rfl (of_decide_eq_true rfl) (of_decide_eq_true rfl) ?_
      refine wi_iload_n (i := 0) (e := 0) (nx := 1) (r1 := 0) (r2 := 0) (r3 := 0) rfl rfl ?_
      refine wi_if (cd := .eq) (nx := 4) (r1 := 8) (r2 := 0) (r3 := 0) rfl (by omega) (fun (q8 : 0 = 0) => ?_) (fun (q8 : ¬ (0 = 0)) => by exfalso; omega)
      refine wi_iconst (n := 0) (nx := 9) (r1 := 0) (r2 := 0) (r3 := 0) rfl ?_
      refine wi_ireturn (nx := 10) (r1 := 0) (r2 := 0) (r3 := 0) rfl rfl ?_
      refine wk_i ?_
      refine wr_pf0 (k0 := 236) (x := 0) (bl := 0) (bh := 2) (nx := 16) (r1 := 11) (r2 := 0) (r3 := 0) rfl (by decide) rfl ⟨rfl, rfl⟩ rfl rfl g rfl (by omega) (fun h9 g9 w9 u9 => ?_)
      have F10 := F0.then rfl u9
      refine wi_iload_n (i := 1) (e := 1) (nx := 17) (r1 := 0) (r2 := 0) (r3 := 0) rfl rfl ?_
      refine wi_zreturn (nx := 18) (r1 := 0) (r2 := 0) (r3 := 0) rfl rfl (by omega) ?_
      refine wk_i ?_
      refine wi_if (cd := .eq) (nx := 12) (r1 := 20) (r2 := 0) (r3 := 0) rfl (by omega) (fun (q11 : 1 = 0) => by exfalso; omega) (fun (q11 : ¬ (1 = 0)) => ?_)
      refine wi_aload_n (i := 0) (x := 236) (nx := 13) (r1 := 0) (r2 := 0) (r3 := 0) rfl rfl ?_
      refine wi_iload_n (i := 1) (e := a0) (nx := 14) (r1 := 0) (r2 := 0) (r3 := 0) rfl rfl ?_
      refine wr_V (k0 := 236) (rest := []) (as := [.ref 236, vi a0]) (nx := 17) (r1 := 290) (r2 := 1) (r3 := 11) rfl rfl rfl (of_decide_eq_true rfl) rfl rfl (by decide) rfl rfl (of_decide_eq_true rfl) (of_decide_eq_true rfl) ?_
      refine ct_290_236 hcr  g9 a0 (by omega)  (fun z13  (fz13 : -1 ≤ z13 ∧ z13 ≤ 3) y12_0 => ?_)
      refine wk_i ?_
      refine wi_goto (nx := 20) (r1 := 21) (r2 := 0) (r3 := 0) rfl ?_
      refine wi_ireturn (nx := 22) (r1 := 0) (r2 := 0) (r3 := 0) rfl rfl ?_
      exact k h9 z13 g9 F10 (by omega)
-- method 256: Model.laneLength(I)I
set_option maxRecDepth 100000 in
set_option maxHeartbeats 100000000 in
theorem ct_256_236 {L : Nat} {xs : Nat → Int32} {d b c : Nat} {h : hp} {cr : Nat → Nat → Option Nat} {Q : hp_Q} (hcr : CR cr)  (g : GI h) (a0 : Int) (q0_ : -2147483648 ≤ a0 ∧ a0 ≤ 2147483647)  (k : ∀ (h2 : hp) (z0 : Int) , GI h2 → FR [(236, 236, some (0, 0))] h h2 → (0 ≤ z0 ∧ z0 ≤ 6) → Q (.inl (some (vi z0))) (hp_w h2 cr) b c) : wp (md_xa (L, xs)) (d + 2) 256 (0, [(0, .ref 236), (1, vi a0)], [], hp_w h cr, b, c) Q := by
  have F0 : FR [(236, 236, some (0, 0))] h h := FR.refl
  refine wi_aload_n (i := 0) (x := 236) (nx := 1) (r1 := 0) (r2 := 0) (r3 := 0) rfl rfl ?_
  refine wi_aload_n (i := 0) (x := 236) (nx := 2) (r1 := 0) (r2 := 0) (r3 := 0) rfl rfl ?_
  refine wi_iload_n (i := 1) (e := a0) (nx := 3) (r1 := 0) (r2 := 0) (r3 := 0) rfl rfl ?_
  refine wr_V (k0 := 236) (rest := [.ref 236]) (as := [.ref 236, vi a0]) (nx := 6) (r1 := 242) (r2 := 1) (r3 := 11) rfl rfl rfl (of_decide_eq_true rfl) rfl rfl (by decide) rfl rfl (of_decide_eq_true rfl) (of_decide_eq_true rfl) ?_
  refine wi_iload_n (i := 1) (e := a0) (nx := 1) (r1 := 0) (r2 := 0) (r3 := 0) rfl rfl ?_
  refine wi_i2l (nx := 2) (r1 := 0) (r2 := 0) (r3 := 0) rfl (by omega) ?_
  refine wi_lconst (n := 0) (e := 0) (nx := 3) (r1 := 0) (r2 := 0) (r3 := 0) rfl (by decide) ?_
  refine wi_aload_n (i := 0) (x := 236) (nx := 4) (r1 := 0) (r2 := 0) (r3 := 0) rfl rfl ?_
  refine wr_gr (k0 := 236) (x := 238) (nx := 7) (r1 := 11) (r2 := 13) (r3 := 0) rfl rfl (by decide) rfl ⟨rfl, rfl⟩ rfl ?_
  refine wi_iconst (n := 1) (nx := 8) (r1 := 0) (r2 := 0) (r3 := 0) rfl ?_
  have b1 := gi_b (lo := 0) (hi := 4) g 238 1 rfl
  refine wr_ia (k0 := 238) (a := 1) (f := 1) (x := h 238 1) (nx := 9) (r1 := 0) (r2 := 0) (r3 := 0) rfl (by decide) rfl (by omega) (by omega) (by decide) rfl ?_
  refine wi_iconst (n := 1) (nx := 10) (r1 := 0) (r2 := 0) (r3 := 0) rfl ?_
  refine wr_sub (nx := 11) (r1 := 0) (r2 := 0) (r3 := 0) rfl (fun e2 (fe2 : e2 = (h 238 1) - 1) => ?_)
  refine wi_i2l (nx := 12) (r1 := 0) (r2 := 0) (r3 := 0) rfl (by omega) ?_
  refine wi_S (rest := []) (as := [vl a0, vl 0, vl e2]) (nx := 15) (r1 := 210) (r2 := 19) (r3 := 0) rfl rfl rfl (of_decide_eq_true rfl) rfl rfl (of_decide_eq_true rfl) (of_decide_eq_true rfl) ?_
  refine wi_lload_n (i := 0) (e := a0) (nx := 1) (r1 := 0) (r2 := 0) (r3 := 0) rfl rfl ?_
  refine wi_lload_n (i := 2) (e := 0) (nx := 2) (r1 := 0) (r2 := 0) (r3 := 0) rfl rfl ?_
  refine wi_lcmp (a := a0) (e := 0) (nx := 3) (r1 := 0) (r2 := 0) (r3 := 0) rfl (by omega) (by omega) (fun r3 (fr3 : (r3 = -1 ∧ a0 < 0) ∨ (r3 = 0 ∧ a0 = 0) ∨ (r3 = 1 ∧ 0 < a0)) => ?_)
  refine wi_if (cd := .lt) (nx := 6) (r1 := 17) (r2 := 0) (r3 := 0) rfl (by omega) (fun (q4 : r3 < 0) => ?_) (fun (q4 : ¬ (r3 < 0)) => ?_)
  ·
    refine wi_iconst (n := 0) (nx := 18) (r1 := 0) (r2 := 0) (r3 := 0) rfl ?_
    refine wi_zreturn (nx := 19) (r1 := 0) (r2 := 0) (r3 := 0) rfl rfl (by omega) ?_
    refine wk_i ?_
    refine wi_zreturn (nx := 16) (r1 := 0) (r2 := 0) (r3 := 0) rfl rfl (by omega) ?_
    refine wk_i ?_
    refine wr_V (k0 := 236) (rest := []) (as := [.ref 236, vi 0]) (nx := 9) (r1 := 206) (r2 := 1) (r3 := 11) rfl rfl rfl (of_decide_eq_true rfl) rfl rfl (by decide) rfl rfl (of_decide_eq_true rfl) (of_decide_eq_true rfl) ?_
    refine wi_aload_n (i := 0) (x := 236) (nx := 1) (r1 := 0) (r2 := 0) (r3 := 0) rfl rfl ?_
    refine wi_iload_n (i := 1) (e := 0) (nx := 2) (r1 := 0) (r2 := 0) (r3 := 0) rfl rfl ?_
    refine wi_if (cd := .ne) (nx := 5) (r1 := 9) (r2 := 0) (r3 := 0) rfl (by omega) (fun (q5 : 0 ≠ 0) => by exfalso; omega) (fun (q5 : ¬ (0 ≠ 0)) => ?_)
    refine wi_iconst (n := 1) (nx := 6) (r1 := 0) (r2 := 0) (r3 := 0) rfl ?_
    refine wi_goto (nx := 9) (r1 := 10) (r2 := 0) (r3 := 0) rfl ?_
    refine wi_S (rest := [.ref 236]) (as := [vi 1]) (nx := 13) (r1 := 207) (r2 := 17) (r3 := 0) rfl rfl rfl (of_decide_eq_true rfl) rfl rfl (of_decide_eq_true rfl) (of_decide_eq_true rfl) ?_
    refine wi_iload_n (i := 0) (e := 1) (nx := 1) (r1 := 0) (r2 := 0) (r3 := 0) rfl rfl ?_
    refine wi_if (cd := .eq) (nx := 4) (r1 := 8) (r2 := 0) (r3 := 0) rfl (by omega) (fun (q6 : 1 = 0) => by exfalso; omega) (fun (q6 : ¬ (1 = 0)) => ?_)
    refine wi_iconst (n := 1) (nx := 5) (r1 := 0) (r2 := 0) (r3 := 0) rfl ?_
    refine wi_goto (nx := 8) (r1 := 9) (r2 := 0) (r3 := 0) rfl ?_
    refine wi_ireturn (nx := 10) (r1 := 0) (r2 := 0) (r3 := 0) rfl rfl ?_
    refine wk_i ?_
    refine wr_pf0 (k0 := 236) (x := 1) (bl := 0) (bh := 2) (nx := 16) (r1 := 11) (r2 := 0) (r3 := 0) rfl (by decide) rfl ⟨rfl, rfl⟩ rfl rfl g rfl (by omega) (fun h7 g7 w7 u7 => ?_)
    have F8 := F0.then rfl u7
    refine wi_iload_n (i := 1) (e := 0) (nx := 17) (r1 := 0) (r2 := 0) (r3 := 0) rfl rfl ?_
    refine wi_zreturn (nx := 18) (r1 := 0) (r2 := 0) (r3 := 0) rfl rfl (by omega) ?_
    refine wk_i ?_
    refine wi_if (cd := .eq) (nx := 12) (r1 := 24) (r2 := 0) (r3 := 0) rfl (by omega) (fun (q9 : 0 = 0) => ?_) (fun (q9 : ¬ (0 = 0)) => by exfalso; omega)
    refine wi_iconst (n := 0) (nx := 25) (r1 := 0) (r2 := 0) (r3 := 0) rfl ?_
    refine wi_ireturn (nx := 26) (r1 := 0) (r2 := 0) (r3 := 0) rfl rfl ?_
    exact k h7 0 g7 F8 (by omega)
  ·
    refine wi_lload_n (i := 0) (e := a0) (nx := 7) (r1 := 0) (r2 := 0) (r3 := 0) rfl rfl ?_
    refine wi_lload (i := 4) (e := e2) (nx := 9) (r1 := 0) (r2 := 0) (r3 := 0) rfl rfl ?_
    refine wi_lcmp (a := a0) (e := e2) (nx := 10) (r1 := 0) (r2 := 0) (r3 := 0) rfl (by omega) (by omega) (fun r5 (fr5 : (r5 = -1 ∧ a0 < e2) ∨ (r5 = 0 ∧ a0 = e2) ∨ (r5 = 1 ∧ e2 < a0)) => ?_)
    refine wi_if (cd := .gt) (nx := 13) (r1 := 17) (r2 := 0) (r3 := 0) rfl (by omega) (fun (q6 : 0 < r5) => ?_) (fun (q6 : ¬ (0 < r5)) => ?_)
    ·
      refine wi_iconst (n := 0) (nx := 18) (r1 := 0) (r2 := 0) (r3 := 0) rfl ?_
      refine wi_zreturn (nx := 19) (r1 := 0) (r2 := 0) (r3 := 0) rfl rfl (by omega) ?_
      refine wk_i ?_
      refine wi_zreturn (nx := 16) (r1 := 0) (r2 := 0) (r3 := 0) rfl rfl (by omega) ?_
      refine wk_i ?_
      refine wr_V (k0 := 236) (rest := []) (as := [.ref 236, vi 0]) (nx := 9) (r1 := 206) (r2 := 1) (r3 := 11) rfl rfl rfl (of_decide_eq_true rfl) rfl rfl (by decide) rfl rfl (of_decide_eq_true rfl) (of_decide_eq_true rfl) ?_
      refine wi_aload_n (i := 0) (x := 236) (nx := 1) (r1 := 0) (r2 := 0) (r3 := 0) rfl rfl ?_
      refine wi_iload_n (i := 1) (e := 0) (nx := 2) (r1 := 0) (r2 := 0) (r3 := 0) rfl rfl ?_
      refine wi_if (cd := .ne) (nx := 5) (r1 := 9) (r2 := 0) (r3 := 0) rfl (by omega) (fun (q7 : 0 ≠ 0) => by exfalso; omega) (fun (q7 : ¬ (0 ≠ 0)) => ?_)
      refine wi_iconst (n := 1) (nx := 6) (r1 := 0) (r2 := 0) (r3 := 0) rfl ?_
      refine wi_goto (nx := 9) (r1 := 10) (r2 := 0) (r3 := 0) rfl ?_
      refine wi_S (rest := [.ref 236]) (as := [vi 1]) (nx := 13) (r1 := 207) (r2 := 17) (r3 := 0) rfl rfl rfl (of_decide_eq_true rfl) rfl rfl (of_decide_eq_true rfl) (of_decide_eq_true rfl) ?_
      refine wi_iload_n (i := 0) (e := 1) (nx := 1) (r1 := 0) (r2 := 0) (r3 := 0) rfl rfl ?_
      refine wi_if (cd := .eq) (nx := 4) (r1 := 8) (r2 := 0) (r3 := 0) rfl (by omega) (fun (q8 : 1 = 0) => by exfalso; omega) (fun (q8 : ¬ (1 = 0)) => ?_)
      refine wi_iconst (n := 1) (nx := 5) (r1 := 0) (r2 := 0) (r3 := 0) rfl ?_
      refine wi_goto (nx := 8) (r1 := 9) (r2 := 0) (r3 := 0) rfl ?_
      refine wi_ireturn (nx := 10) (r1 := 0) (r2 := 0) (r3 := 0) rfl rfl ?_
      refine wk_i ?_
      refine wr_pf0 (k0 := 236) (x := 1) (bl := 0) (bh := 2) (nx := 16) (r1 := 11) (r2 := 0) (r3 := 0) rfl (by decide) rfl ⟨rfl, rfl⟩ rfl rfl g rfl (by omega) (fun h9 g9 w9 u9 => ?_)
      have F10 := F0.then rfl u9
      refine wi_iload_n (i := 1) (e := 0) (nx := 17) (r1 := 0) (r2 := 0) (r3 := 0) rfl rfl ?_
      refine wi_zreturn (nx := 18) (r1 := 0) (r2 := 0) (r3 := 0) rfl rfl (by omega) ?_
      refine wk_i ?_
      refine wi_if (cd := .eq) (nx := 12) (r1 := 24) (r2 := 0) (r3 := 0) rfl (by omega) (fun (q11 : 0 = 0) => ?_) (fun (q11 : ¬ (0 = 0)) => by exfalso; omega)
      refine wi_iconst (n := 0) (nx := 25) (r1 := 0) (r2 := 0) (r3 := 0) rfl ?_
      refine wi_ireturn (nx := 26) (r1 := 0) (r2 := 0) (r3 := 0) rfl rfl ?_
      exact k h9 0 g9 F10 (by omega)
    ·
      refine wi_iconst (n := 1) (nx := 14) (r1 := 0) (r2 := 0) (r3 := 0) rfl ?_
      refine wi_goto (nx := 17) (r1 := 18) (r2 := 0) (r3 := 0) rfl ?_
      refine wi_zreturn (nx := 19) (r1 := 0) (r2 := 0) (r3 := 0) rfl rfl (by omega) ?_
      refine wk_i ?_
      refine wi_zreturn (nx := 16) (r1 := 0) (r2 := 0) (r3 := 0) rfl rfl (by omega) ?_
      refine wk_i ?_
      refine wr_V (k0 := 236) (rest := []) (as := [.ref 236, vi 1]) (nx := 9) (r1 := 206) (r2 := 1) (r3 := 11) rfl rfl rfl (of_decide_eq_true rfl) rfl rfl (by decide) rfl rfl (of_decide_eq_true rfl) (of_decide_eq_true rfl) ?_
      refine wi_aload_n (i := 0) (x := 236) (nx := 1) (r1 := 0) (r2 := 0) (r3 := 0) rfl rfl ?_
      refine wi_iload_n (i := 1) (e := 1) (nx := 2) (r1 := 0) (r2 := 0) (r3 := 0) rfl rfl ?_
      refine wi_if (cd := .ne) (nx := 5) (r1 := 9) (r2 := 0) (r3 := 0) rfl (by omega) (fun (q7 : 1 ≠ 0) => ?_) (fun (q7 : ¬ (1 ≠ 0)) => by exfalso; omega)
      refine wi_iconst (n := 0) (nx := 10) (r1 := 0) (r2 := 0) (r3 := 0) rfl ?_
      refine wi_S (rest := [.ref 236]) (as := [vi 0]) (nx := 13) (r1 := 207) (r2 := 17) (r3 := 0) rfl rfl rfl (of_decide_eq_true rfl) rfl rfl (of_decide_eq_true rfl) (of_decide_eq_true rfl) ?_
      refine wi_iload_n (i := 0) (e := 0) (nx := 1) (r1 := 0) (r2 := 0) (r3 := 0) rfl rfl ?_
      refine wi_if (cd := .eq) (nx := 4) (r1 := 8) (r2 := 0) (r3 := 0) rfl (by omega) (fun (q8 : 0 = 0) => ?_) (fun (q8 : ¬ (0 = 0)) => by exfalso; omega)
      refine wi_iconst (n := 0) (nx := 9) (r1 := 0) (r2 := 0) (r3 := 0) rfl ?_
      refine wi_ireturn (nx := 10) (r1 := 0) (r2 := 0) (r3 := 0) rfl rfl ?_
      refine wk_i ?_
      refine wr_pf0 (k0 := 236) (x := 0) (bl := 0) (bh := 2) (nx := 16) (r1 := 11) (r2 := 0) (r3 := 0) rfl (by decide) rfl ⟨rfl, rfl⟩ rfl rfl g rfl (by omega) (fun h9 g9 w9 u9 => ?_)
      have F10 := F0.then rfl u9
      refine wi_iload_n (i := 1) (e := 1) (nx := 17) (r1 := 0) (r2 := 0) (r3 := 0) rfl rfl ?_
      refine wi_zreturn (nx := 18) (r1 := 0) (r2 := 0) (r3 := 0) rfl rfl (by omega) ?_
      refine wk_i ?_
      refine wi_if (cd := .eq) (nx := 12) (r1 := 24) (r2 := 0) (r3 := 0) rfl (by omega) (fun (q11 : 1 = 0) => by exfalso; omega) (fun (q11 : ¬ (1 = 0)) => ?_)
      refine wi_aload_n (i := 0) (x := 236) (nx := 13) (r1 := 0) (r2 := 0) (r3 := 0) rfl rfl ?_
      refine wr_gr (k0 := 236) (x := 238) (nx := 16) (r1 := 11) (r2 := 13) (r3 := 0) rfl rfl (by decide) rfl ⟨rfl, rfl⟩ rfl ?_
      refine wi_bipush (n := 98) (nx := 18) (r1 := 0) (r2 := 0) (r3 := 0) rfl (by decide) ?_
      refine wi_iload_n (i := 1) (e := a0) (nx := 19) (r1 := 0) (r2 := 0) (r3 := 0) rfl rfl ?_
      refine wr_add (nx := 20) (r1 := 0) (r2 := 0) (r3 := 0) rfl (fun e12 (fe12 : e12 = 98 + a0) => ?_)
      obtain ⟨i13, ei13⟩ : ∃ q : Nat, e12 = (q : Int) := ⟨(e12).toNat, by omega⟩
      have b14 := gi_b (lo := 0) (hi := 6) g 238 i13 (gi_rg 98 4 (fun _ => rfl) (by decide +kernel) (by omega))
      refine wr_ia (k0 := 238) (a := e12) (f := i13) (x := h 238 i13) (nx := 21) (r1 := 0) (r2 := 0) (r3 := 0) rfl (by decide) rfl (by omega) (by omega) (by decide) (u9 238 i13 (fn_a (by omega) fn_0)) ?_
      refine wi_goto (nx := 24) (r1 := 25) (r2 := 0) (r3 := 0) rfl ?_
      refine wi_ireturn (nx := 26) (r1 := 0) (r2 := 0) (r3 := 0) rfl rfl ?_
      exact k h9 (h 238 i13) g9 F10 (by omega)
-- method 264: Model.late()I
set_option maxRecDepth 100000 in
set_option maxHeartbeats 100000000 in
theorem ct_264_236 {L : Nat} {xs : Nat → Int32} {d b c : Nat} {h : hp} {cr : Nat → Nat → Option Nat} {Q : hp_Q} (hcr : CR cr)  (g : GI h)    (k : ∀ (h2 : hp) (z0 : Int) , GI h2 → FR [(236, 236, some (0, 0))] h h2 → (-2147483648 ≤ z0 ∧ z0 ≤ 2147483647) → Q (.inl (some (vi z0))) (hp_w h2 cr) b c) : wp (md_xa (L, xs)) (d + 1) 264 (0, [(0, .ref 236)], [], hp_w h cr, b, c) Q := by
  have F0 : FR [(236, 236, some (0, 0))] h h := FR.refl
  refine wi_aload_n (i := 0) (x := 236) (nx := 1) (r1 := 0) (r2 := 0) (r3 := 0) rfl rfl ?_
  refine wi_iconst (n := 0) (nx := 2) (r1 := 0) (r2 := 0) (r3 := 0) rfl ?_
  refine wr_pf0 (k0 := 236) (x := 0) (bl := 0) (bh := 2) (nx := 5) (r1 := 11) (r2 := 0) (r3 := 0) rfl (by decide) rfl ⟨rfl, rfl⟩ rfl rfl g rfl (by omega) (fun h1 g1 w1 u1 => ?_)
  have F2 := F0.then rfl u1
  refine wi_iconst (n := 0) (nx := 6) (r1 := 0) (r2 := 0) (r3 := 0) rfl ?_
  refine wi_istore_n (i := 1) (e := 0) (lo2 := [(1, vi 0), (0, .ref 236)]) (nx := 7) (r1 := 0) (r2 := 0) (r3 := 0) rfl rfl ?_
  refine wi_iconst (n := 0) (nx := 8) (r1 := 0) (r2 := 0) (r3 := 0) rfl ?_
  refine wi_istore_n (i := 2) (e := 0) (lo2 := [(2, vi 0), (1, vi 0), (0, .ref 236)]) (nx := 9) (r1 := 0) (r2 := 0) (r3 := 0) rfl rfl ?_
  refine wp.lo (lo := [(0, .ref 236), (1, vi 0), (2, vi 0)]) ⟨rfl, rfl, rfl, trivial⟩ rfl ?_
  refine wl_2 (fun x3 x4 h5 => h1 = h5 ∧ ((-2147483648 ≤ x3 ∧ x3 ≤ 2147483647) ∧ (0 ≤ x4 ∧ x4 ≤ 12))) (fun x3 x4 h5 => ((12 : Int) + 1 - x4).toNat) (fun x3 x4 h5 => (9, [(0, .ref 236), (1, vi x3), (2, vi x4)], [], hp_w h5 cr, b, c)) ?_ 0 0 h1 ⟨rfl, (show (-2147483648 ≤ 0 ∧ 0 ≤ 2147483647) ∧ (0 ≤ 0 ∧ 0 ≤ 12) by omega)⟩
  intro x3 x4 h5 ⟨e5, f5⟩ I5
  subst e5
  refine wi_iload_n (i := 2) (e := x4) (nx := 10) (r1 := 0) (r2 := 0) (r3 := 0) rfl rfl ?_
  refine wi_aload_n (i := 0) (x := 236) (nx := 11) (r1 := 0) (r2 := 0) (r3 := 0) rfl rfl ?_
  refine wr_gr (k0 := 236) (x := 238) (nx := 14) (r1 := 11) (r2 := 13) (r3 := 0) rfl rfl (by decide) rfl ⟨rfl, rfl⟩ rfl ?_
  refine wi_bipush (n := 106) (nx := 16) (r1 := 0) (r2 := 0) (r3 := 0) rfl (by decide) ?_
  have b7 := gi_b (lo := 0) (hi := 12) g 238 106 rfl
  refine wr_ia (k0 := 238) (a := 106) (f := 106) (x := h 238 106) (nx := 17) (r1 := 0) (r2 := 0) (r3 := 0) rfl (by decide) rfl (by omega) (by omega) (by decide) (u1 238 106 rfl) ?_
  refine wi_icmp (cd := .ge) (nx := 20) (r1 := 57) (r2 := 0) (r3 := 0) rfl (by omega) (by omega) (fun (q8 : (h 238 106) ≤ x4) => ?_) (fun (q8 : ¬ ((h 238 106) ≤ x4)) => ?_)
  ·
    refine wi_iload_n (i := 1) (e := x3) (nx := 58) (r1 := 0) (r2 := 0) (r3 := 0) rfl rfl ?_
    refine wi_ireturn (nx := 59) (r1 := 0) (r2 := 0) (r3 := 0) rfl rfl ?_
    exact k h1 x3 g1 F2 (by omega)
  ·
    refine wi_iload_n (i := 1) (e := x3) (nx := 21) (r1 := 0) (r2 := 0) (r3 := 0) rfl rfl ?_
    refine wi_iload_n (i := 2) (e := x4) (nx := 22) (r1 := 0) (r2 := 0) (r3 := 0) rfl rfl ?_
    refine wi_aload_n (i := 0) (x := 236) (nx := 23) (r1 := 0) (r2 := 0) (r3 := 0) rfl rfl ?_
    refine wr_gr (k0 := 236) (x := 238) (nx := 26) (r1 := 11) (r2 := 13) (r3 := 0) rfl rfl (by decide) rfl ⟨rfl, rfl⟩ rfl ?_
    refine wi_bipush (n := 107) (nx := 28) (r1 := 0) (r2 := 0) (r3 := 0) rfl (by decide) ?_
    refine wi_iload_n (i := 2) (e := x4) (nx := 29) (r1 := 0) (r2 := 0) (r3 := 0) rfl rfl ?_
    refine wr_add (nx := 30) (r1 := 0) (r2 := 0) (r3 := 0) rfl (fun e9 (fe9 : e9 = 107 + x4) => ?_)
    obtain ⟨i10, ei10⟩ : ∃ q : Nat, e9 = (q : Int) := ⟨(e9).toNat, by omega⟩
    have b11 := gi_b (lo := 0) (hi := 11) g 238 i10 (gi_rg 107 12 (fun _ => rfl) (by decide +kernel) (by omega))
    refine wr_ia (k0 := 238) (a := e9) (f := i10) (x := h 238 i10) (nx := 31) (r1 := 0) (r2 := 0) (r3 := 0) rfl (by decide) rfl (by omega) (by omega) (by decide) (u1 238 i10 (fn_a (by omega) fn_0)) ?_
    refine wr_sub (nx := 32) (r1 := 0) (r2 := 0) (r3 := 0) rfl (fun e12 (fe12 : e12 = x4 - (h 238 i10)) => ?_)
    refine wi_aload_n (i := 0) (x := 236) (nx := 33) (r1 := 0) (r2 := 0) (r3 := 0) rfl rfl ?_
    refine wr_gr (k0 := 236) (x := 238) (nx := 36) (r1 := 11) (r2 := 13) (r3 := 0) rfl rfl (by decide) rfl ⟨rfl, rfl⟩ rfl ?_
    refine wi_iconst (n := 4) (nx := 37) (r1 := 0) (r2 := 0) (r3 := 0) rfl ?_
    have b13 := gi_b (lo := 0) (hi := 999) g 238 4 rfl
    refine wr_ia (k0 := 238) (a := 4) (f := 4) (x := h 238 4) (nx := 38) (r1 := 0) (r2 := 0) (r3 := 0) rfl (by decide) rfl (by omega) (by omega) (by decide) (u1 238 4 rfl) ?_
    refine wi_icmp (cd := .le) (nx := 41) (r1 := 45) (r2 := 0) (r3 := 0) rfl (by omega) (by omega) (fun (q14 : e12 ≤ (h 238 4)) => ?_) (fun (q14 : ¬ (e12 ≤ (h 238 4))) => ?_)
    ·
      refine wi_iconst (n := 0) (nx := 46) (r1 := 0) (r2 := 0) (r3 := 0) rfl ?_
      refine wi_S (rest := [vi x3]) (as := [vi 0]) (nx := 49) (r1 := 207) (r2 := 17) (r3 := 0) rfl rfl rfl (of_decide_eq_true rfl) rfl rfl (of_decide_eq_true rfl) (of_decide_eq_true rfl) ?_
      refine wi_iload_n (i := 0) (e := 0) (nx := 1) (r1 := 0) (r2 := 0) (r3 := 0) rfl rfl ?_
      refine wi_if (cd := .eq) (nx := 4) (r1 := 8) (r2 := 0) (r3 := 0) rfl (by omega) (fun (q15 : 0 = 0) => ?_) (fun (q15 : ¬ (0 = 0)) => by exfalso; omega)
      refine wi_iconst (n := 0) (nx := 9) (r1 := 0) (r2 := 0) (r3 := 0) rfl ?_
      refine wi_ireturn (nx := 10) (r1 := 0) (r2 := 0) (r3 := 0) rfl rfl ?_
      refine wk_i ?_
      refine wr_add (nx := 50) (r1 := 0) (r2 := 0) (r3 := 0) rfl (fun e16 (fe16 : e16 = x3 + 0) => ?_)
      refine wi_istore_n (i := 1) (e := e16) (lo2 := [(1, vi e16), (0, .ref 236), (2, vi x4)]) (nx := 51) (r1 := 0) (r2 := 0) (r3 := 0) rfl rfl ?_
      refine wr_iinc (i := 2) (n := 1) (v := x4) (fun e17 => [(2, vi e17), (1, vi e16), (0, .ref 236)]) (nx := 54) (r1 := 0) (r2 := 0) (r3 := 0) rfl rfl (fun _ => rfl) (fun e17 (fe17 : e17 = x4 + 1) => ?_)
      refine wi_goto (nx := 57) (r1 := 9) (r2 := 0) (r3 := 0) rfl ?_
      refine wp.lo (lo := [(0, .ref 236), (1, vi e16), (2, vi e17)]) ⟨rfl, rfl, rfl, trivial⟩ rfl ?_
      exact I5 e16 e17 h1 ⟨rfl, (show (-2147483648 ≤ e16 ∧ e16 ≤ 2147483647) ∧ (0 ≤ e17 ∧ e17 ≤ 12) by omega)⟩ (show ((12 : Int) + 1 - e17).toNat < ((12 : Int) + 1 - x4).toNat by omega)
    ·
      refine wi_iconst (n := 1) (nx := 42) (r1 := 0) (r2 := 0) (r3 := 0) rfl ?_
      refine wi_goto (nx := 45) (r1 := 46) (r2 := 0) (r3 := 0) rfl ?_
      refine wi_S (rest := [vi x3]) (as := [vi 1]) (nx := 49) (r1 := 207) (r2 := 17) (r3 := 0) rfl rfl rfl (of_decide_eq_true rfl) rfl rfl (of_decide_eq_true rfl) (of_decide_eq_true rfl) ?_
      refine wi_iload_n (i := 0) (e := 1) (nx := 1) (r1 := 0) (r2 := 0) (r3 := 0) rfl rfl ?_
      refine wi_if (cd := .eq) (nx := 4) (r1 := 8) (r2 := 0) (r3 := 0) rfl (by omega) (fun (q15 : 1 = 0) => by exfalso; omega) (fun (q15 : ¬ (1 = 0)) => ?_)
      refine wi_iconst (n := 1) (nx := 5) (r1 := 0) (r2 := 0) (r3 := 0) rfl ?_
      refine wi_goto (nx := 8) (r1 := 9) (r2 := 0) (r3 := 0) rfl ?_
      refine wi_ireturn (nx := 10) (r1 := 0) (r2 := 0) (r3 := 0) rfl rfl ?_
      refine wk_i ?_
      refine wr_addW (nx := 50) (r1 := 0) (r2 := 0) (r3 := 0) rfl (fun e16 (fe16 : -2147483648 ≤ e16 ∧ e16 ≤ 2147483647) => ?_)
      refine wi_istore_n (i := 1) (e := e16) (lo2 := [(1, vi e16), (0, .ref 236), (2, vi x4)]) (nx := 51) (r1 := 0) (r2 := 0) (r3 := 0) rfl rfl ?_
      refine wr_iinc (i := 2) (n := 1) (v := x4) (fun e17 => [(2, vi e17), (1, vi e16), (0, .ref 236)]) (nx := 54) (r1 := 0) (r2 := 0) (r3 := 0) rfl rfl (fun _ => rfl) (fun e17 (fe17 : e17 = x4 + 1) => ?_)
      refine wi_goto (nx := 57) (r1 := 9) (r2 := 0) (r3 := 0) rfl ?_
      refine wp.lo (lo := [(0, .ref 236), (1, vi e16), (2, vi e17)]) ⟨rfl, rfl, rfl, trivial⟩ rfl ?_
      exact I5 e16 e17 h1 ⟨rfl, (show (-2147483648 ≤ e16 ∧ e16 ≤ 2147483647) ∧ (0 ≤ e17 ∧ e17 ≤ 12) by omega)⟩ (show ((12 : Int) + 1 - e17).toNat < ((12 : Int) + 1 - x4).toNat by omega)
-- method 283: Model.paints(I)V
set_option maxRecDepth 100000 in
set_option maxHeartbeats 100000000 in
theorem ct_283_236 {L : Nat} {xs : Nat → Int32} {d b c : Nat} {h : hp} {cr : Nat → Nat → Option Nat} {Q : hp_Q} (hcr : CR cr)  (g : GI h) (a0 : Int) (q0_ : 0 ≤ a0 ∧ a0 ≤ 11) (pp0 : h 238 67 ≤ 9998) (pp1 : h 238 119 ≤ h 238 67) (pp2 : h 238 69 ≤ h 238 5) (pp3 : 1 ≤ h 238 5) (k : ∀ (h2 : hp) , GI h2 → FR [(238, 238, some (67, 67)), (238, 238, some (68, 68)), (238, 238, some (69, 69)), (238, 238, some (70, 70)), (238, 238, some (71, 71)), (238, 238, some (72, 72)), (238, 238, some (119, 119)), (238, 238, some (120, 196)), (238, 238, some (121, 197)), (238, 238, some (122, 198)), (238, 238, some (123, 199))] h h2 → (h2 238 119 ≤ h2 238 67) → (h2 238 69 ≤ h2 238 5) → Q (.inl none) (hp_w h2 cr) b c) : wp (md_xa (L, xs)) (d + 1) 283 (0, [(0, .ref 236), (1, vi a0)], [], hp_w h cr, b, c) Q := by
  have F0 : FR [(238, 238, some (67, 67)), (238, 238, some (68, 68)), (238, 238, some (69, 69)), (238, 238, some (70, 70)), (238, 238, some (71, 71)), (238, 238, some (72, 72)), (238, 238, some (119, 119)), (238, 238, some (120, 196)), (238, 238, some (121, 197)), (238, 238, some (122, 198)), (238, 238, some (123, 199))] h h := FR.refl
  have b1 := gi_b (lo := 0) (hi := 9999) g 238 67 rfl
  have b2 := gi_b (lo := 0) (hi := 9999) g 238 119 rfl
  have b3 := gi_b (lo := 0) (hi := 9) g 238 69 rfl
  have b4 := gi_b (lo := 0) (hi := 9) g 238 5 rfl
  refine wi_aload_n (i := 0) (x := 236) (nx := 1) (r1 := 0) (r2 := 0) (r3 := 0) rfl rfl ?_
  refine wr_gr (k0 := 236) (x := 238) (nx := 4) (r1 := 11) (r2 := 13) (r3 := 0) rfl rfl (by decide) rfl ⟨rfl, rfl⟩ rfl ?_
  refine wi_bipush (n := 31) (nx := 6) (r1 := 0) (r2 := 0) (r3 := 0) rfl (by decide) ?_
  refine wi_iload_n (i := 1) (e := a0) (nx := 7) (r1 := 0) (r2 := 0) (r3 := 0) rfl rfl ?_
  refine wr_add (nx := 8) (r1 := 0) (r2 := 0) (r3 := 0) rfl (fun e5 (fe5 : e5 = 31 + a0) => ?_)
  obtain ⟨i6, ei6⟩ : ∃ q : Nat, e5 = (q : Int) := ⟨(e5).toNat, by omega⟩
  have b7 := gi_b (lo := 0) (hi := 4) g 238 i6 (gi_rg 31 12 (fun _ => rfl) (by decide +kernel) (by omega))
  refine wr_ia (k0 := 238) (a := e5) (f := i6) (x := h 238 i6) (nx := 9) (r1 := 0) (r2 := 0) (r3 := 0) rfl (by decide) rfl (by omega) (by omega) (by decide) rfl ?_
  refine wi_istore_n (i := 2) (e := h 238 i6) (lo2 := [(2, vi (h 238 i6)), (0, .ref 236), (1, vi a0)]) (nx := 10) (r1 := 0) (r2 := 0) (r3 := 0) rfl rfl ?_
  refine wi_aload_n (i := 0) (x := 236) (nx := 11) (r1 := 0) (r2 := 0) (r3 := 0) rfl rfl ?_
  refine wr_gr (k0 := 236) (x := 238) (nx := 14) (r1 := 11) (r2 := 13) (r3 := 0) rfl rfl (by decide) rfl ⟨rfl, rfl⟩ rfl ?_
  refine wi_bipush (n := 68) (nx := 16) (r1 := 0) (r2 := 0) (r3 := 0) rfl (by decide) ?_
  have b8 := gi_b (lo := -1) (hi := 4) g 238 68 rfl
  refine wr_ia (k0 := 238) (a := 68) (f := 68) (x := h 238 68) (nx := 17) (r1 := 0) (r2 := 0) (r3 := 0) rfl (by decide) rfl (by omega) (by omega) (by decide) rfl ?_
  refine wi_iconst (n := (-1)) (nx := 18) (r1 := 0) (r2 := 0) (r3 := 0) rfl ?_
  refine wi_icmp (cd := .eq) (nx := 21) (r1 := 36) (r2 := 0) (r3 := 0) rfl (by omega) (by omega) (fun (q9 : (h 238 68) = (-1)) => ?_) (fun (q9 : ¬ ((h 238 68) = (-1))) => ?_)
  ·
    refine wi_iconst (n := 0) (nx := 37) (r1 := 0) (r2 := 0) (r3 := 0) rfl ?_
    refine wi_istore_n (i := 3) (e := 0) (lo2 := [(3, vi 0), (2, vi (h 238 i6)), (0, .ref 236), (1, vi a0)]) (nx := 38) (r1 := 0) (r2 := 0) (r3 := 0) rfl rfl ?_
    refine wi_aload_n (i := 0) (x := 236) (nx := 39) (r1 := 0) (r2 := 0) (r3 := 0) rfl rfl ?_
    refine wr_gr (k0 := 236) (x := 238) (nx := 42) (r1 := 11) (r2 := 13) (r3 := 0) rfl rfl (by decide) rfl ⟨rfl, rfl⟩ rfl ?_
    refine wi_bipush (n := 68) (nx := 44) (r1 := 0) (r2 := 0) (r3 := 0) rfl (by decide) ?_
    refine wr_ia (k0 := 238) (a := 68) (f := 68) (x := h 238 68) (nx := 45) (r1 := 0) (r2 := 0) (r3 := 0) rfl (by decide) rfl (by omega) (by omega) (by decide) rfl ?_
    refine wi_iload_n (i := 2) (e := h 238 i6) (nx := 46) (r1 := 0) (r2 := 0) (r3 := 0) rfl rfl ?_
    refine wi_icmp (cd := .ne) (nx := 49) (r1 := 69) (r2 := 0) (r3 := 0) rfl (by omega) (by omega) (fun (q10 : (h 238 68) ≠ (h 238 i6)) => ?_) (fun (q10 : ¬ ((h 238 68) ≠ (h 238 i6))) => by exfalso; omega)
    refine wi_iconst (n := 0) (nx := 70) (r1 := 0) (r2 := 0) (r3 := 0) rfl ?_
    refine wi_istore (i := 4) (e := 0) (lo2 := [(4, vi 0), (3, vi 0), (2, vi (h 238 i6)), (0, .ref 236), (1, vi a0)]) (nx := 72) (r1 := 0) (r2 := 0) (r3 := 0) rfl rfl ?_
    refine wi_iload_n (i := 3) (e := 0) (nx := 73) (r1 := 0) (r2 := 0) (r3 := 0) rfl rfl ?_
    refine wi_if (cd := .eq) (nx := 76) (r1 := 88) (r2 := 0) (r3 := 0) rfl (by omega) (fun (q11 : 0 = 0) => ?_) (fun (q11 : ¬ (0 = 0)) => by exfalso; omega)
    refine wi_iload (i := 4) (e := 0) (nx := 90) (r1 := 0) (r2 := 0) (r3 := 0) rfl rfl ?_
    refine wi_if (cd := .eq) (nx := 93) (r1 := 103) (r2 := 0) (r3 := 0) rfl (by omega) (fun (q12 : 0 = 0) => ?_) (fun (q12 : ¬ (0 = 0)) => by exfalso; omega)
    refine wi_iconst (n := 0) (nx := 104) (r1 := 0) (r2 := 0) (r3 := 0) rfl ?_
    refine wi_istore (i := 5) (e := 0) (lo2 := [(5, vi 0), (4, vi 0), (3, vi 0), (2, vi (h 238 i6)), (0, .ref 236), (1, vi a0)]) (nx := 106) (r1 := 0) (r2 := 0) (r3 := 0) rfl rfl ?_
    refine wi_aload_n (i := 0) (x := 236) (nx := 107) (r1 := 0) (r2 := 0) (r3 := 0) rfl rfl ?_
    refine wr_gr (k0 := 236) (x := 238) (nx := 110) (r1 := 11) (r2 := 13) (r3 := 0) rfl rfl (by decide) rfl ⟨rfl, rfl⟩ rfl ?_
    refine wi_bipush (n := 69) (nx := 112) (r1 := 0) (r2 := 0) (r3 := 0) rfl (by decide) ?_
    refine wi_aload_n (i := 0) (x := 236) (nx := 113) (r1 := 0) (r2 := 0) (r3 := 0) rfl rfl ?_
    refine wr_gr (k0 := 236) (x := 238) (nx := 116) (r1 := 11) (r2 := 13) (r3 := 0) rfl rfl (by decide) rfl ⟨rfl, rfl⟩ rfl ?_
    refine wi_bipush (n := 68) (nx := 118) (r1 := 0) (r2 := 0) (r3 := 0) rfl (by decide) ?_
    refine wr_ia (k0 := 238) (a := 68) (f := 68) (x := h 238 68) (nx := 119) (r1 := 0) (r2 := 0) (r3 := 0) rfl (by decide) rfl (by omega) (by omega) (by decide) rfl ?_
    refine wi_iload_n (i := 2) (e := h 238 i6) (nx := 120) (r1 := 0) (r2 := 0) (r3 := 0) rfl rfl ?_
    refine wi_icmp (cd := .ne) (nx := 123) (r1 := 140) (r2 := 0) (r3 := 0) rfl (by omega) (by omega) (fun (q13 : (h 238 68) ≠ (h 238 i6)) => ?_) (fun (q13 : ¬ ((h 238 68) ≠ (h 238 i6))) => by exfalso; omega)
    refine wi_iconst (n := 1) (nx := 141) (r1 := 0) (r2 := 0) (r3 := 0) rfl ?_
    refine wr_is (k0 := 238) (a := 69) (f := 69) (x := 1) (bl := 0) (bh := 9) (nx := 142) (r1 := 0) (r2 := 0) (r3 := 0) rfl (by decide) rfl (by omega) (by omega) (by decide) g rfl (by omega) (fun h14 g14 w14 u14 => ?_)
    have F15 := F0.then rfl u14
    refine wi_aload_n (i := 0) (x := 236) (nx := 143) (r1 := 0) (r2 := 0) (r3 := 0) rfl rfl ?_
    refine wr_gr (k0 := 236) (x := 238) (nx := 146) (r1 := 11) (r2 := 13) (r3 := 0) rfl rfl (by decide) rfl ⟨rfl, rfl⟩ rfl ?_
    refine wi_bipush (n := 68) (nx := 148) (r1 := 0) (r2 := 0) (r3 := 0) rfl (by decide) ?_
    refine wi_iload_n (i := 2) (e := h 238 i6) (nx := 149) (r1 := 0) (r2 := 0) (r3 := 0) rfl rfl ?_
    refine wr_is (k0 := 238) (a := 68) (f := 68) (x := h 238 i6) (bl := -1) (bh := 4) (nx := 150) (r1 := 0) (r2 := 0) (r3 := 0) rfl (by decide) rfl (by omega) (by omega) (by decide) g14 rfl (by omega) (fun h16 g16 w16 u16 => ?_)
    have F17 := F15.then rfl u16
    refine wi_aload_n (i := 0) (x := 236) (nx := 151) (r1 := 0) (r2 := 0) (r3 := 0) rfl rfl ?_
    refine wr_gr (k0 := 236) (x := 238) (nx := 154) (r1 := 11) (r2 := 13) (r3 := 0) rfl rfl (by decide) rfl ⟨rfl, rfl⟩ rfl ?_
    refine wi_bipush (n := 70) (nx := 156) (r1 := 0) (r2 := 0) (r3 := 0) rfl (by decide) ?_
    refine wi_dup2 (nx := 157) (r1 := 0) (r2 := 0) (r3 := 0) rfl rfl rfl ?_
    have b18 := gi_b (lo := -2147483648) (hi := 2147483647) g 238 70 rfl
    refine wr_ia (k0 := 238) (a := 70) (f := 70) (x := h 238 70) (nx := 158) (r1 := 0) (r2 := 0) (r3 := 0) rfl (by decide) rfl (by omega) (by omega) (by decide) ((u16 238 70 rfl).trans (u14 238 70 rfl)) ?_
    refine wi_iload_n (i := 3) (e := 0) (nx := 159) (r1 := 0) (r2 := 0) (r3 := 0) rfl rfl ?_
    refine wi_S (rest := [vi (h 238 70), vi 70, .ref 238]) (as := [vi 0]) (nx := 162) (r1 := 207) (r2 := 17) (r3 := 0) rfl rfl rfl (of_decide_eq_true rfl) rfl rfl (of_decide_eq_true rfl) (of_decide_eq_true rfl) ?_
    refine wi_iload_n (i := 0) (e := 0) (nx := 1) (r1 := 0) (r2 := 0) (r3 := 0) rfl rfl ?_
    refine wi_if (cd := .eq) (nx := 4) (r1 := 8) (r2 := 0) (r3 := 0) rfl (by omega) (fun (q19 : 0 = 0) => ?_) (fun (q19 : ¬ (0 = 0)) => by exfalso; omega)
    refine wi_iconst (n := 0) (nx := 9) (r1 := 0) (r2 := 0) (r3 := 0) rfl ?_
    refine wi_ireturn (nx := 10) (r1 := 0) (r2 := 0) (r3 := 0) rfl rfl ?_
    refine wk_i ?_
    refine wr_add (nx := 163) (r1 := 0) (r2 := 0) (r3 := 0) rfl (fun e20 (fe20 : e20 = (h 238 70) + 0) => ?_)
    refine wr_is (k0 := 238) (a := 70) (f := 70) (x := e20) (bl := -2147483648) (bh := 2147483647) (nx := 164) (r1 := 0) (r2 := 0) (r3 := 0) rfl (by decide) rfl (by omega) (by omega) (by decide) g16 rfl (by omega) (fun h21 g21 w21 u21 => ?_)
    have F22 := F17.then rfl u21
    refine wi_aload_n (i := 0) (x := 236) (nx := 165) (r1 := 0) (r2 := 0) (r3 := 0) rfl rfl ?_
    refine wr_gr (k0 := 236) (x := 238) (nx := 168) (r1 := 11) (r2 := 13) (r3 := 0) rfl rfl (by decide) rfl ⟨rfl, rfl⟩ rfl ?_
    refine wi_bipush (n := 71) (nx := 170) (r1 := 0) (r2 := 0) (r3 := 0) rfl (by decide) ?_
    refine wi_dup2 (nx := 171) (r1 := 0) (r2 := 0) (r3 := 0) rfl rfl rfl ?_
    have b23 := gi_b (lo := -2147483648) (hi := 2147483647) g 238 71 rfl
    refine wr_ia (k0 := 238) (a := 71) (f := 71) (x := h 238 71) (nx := 172) (r1 := 0) (r2 := 0) (r3 := 0) rfl (by decide) rfl (by omega) (by omega) (by decide) ((u21 238 71 rfl).trans ((u16 238 71 rfl).trans (u14 238 71 rfl))) ?_
    refine wi_iload (i := 4) (e := 0) (nx := 174) (r1 := 0) (r2 := 0) (r3 := 0) rfl rfl ?_
    refine wi_S (rest := [vi (h 238 71), vi 71, .ref 238]) (as := [vi 0]) (nx := 177) (r1 := 207) (r2 := 17) (r3 := 0) rfl rfl rfl (of_decide_eq_true rfl) rfl rfl (of_decide_eq_true rfl) (of_decide_eq_true rfl) ?_
    refine wi_iload_n (i := 0) (e := 0) (nx := 1) (r1 := 0) (r2 := 0) (r3 := 0) rfl rfl ?_
    refine wi_if (cd := .eq) (nx := 4) (r1 := 8) (r2 := 0) (r3 := 0) rfl (by omega) (fun (q24 : 0 = 0) => ?_) (fun (q24 : ¬ (0 = 0)) => by exfalso; omega)
    refine wi_iconst (n := 0) (nx := 9) (r1 := 0) (r2 := 0) (r3 := 0) rfl ?_
    refine wi_ireturn (nx := 10) (r1 := 0) (r2 := 0) (r3 := 0) rfl rfl ?_
    refine wk_i ?_
    refine wr_add (nx := 178) (r1 := 0) (r2 := 0) (r3 := 0) rfl (fun e25 (fe25 : e25 = (h 238 71) + 0) => ?_)
    refine wr_is (k0 := 238) (a := 71) (f := 71) (x := e25) (bl := -2147483648) (bh := 2147483647) (nx := 179) (r1 := 0) (r2 := 0) (r3 := 0) rfl (by decide) rfl (by omega) (by omega) (by decide) g21 rfl (by omega) (fun h26 g26 w26 u26 => ?_)
    have F27 := F22.then rfl u26
    refine wi_aload_n (i := 0) (x := 236) (nx := 180) (r1 := 0) (r2 := 0) (r3 := 0) rfl rfl ?_
    refine wr_gr (k0 := 236) (x := 238) (nx := 183) (r1 := 11) (r2 := 13) (r3 := 0) rfl rfl (by decide) rfl ⟨rfl, rfl⟩ rfl ?_
    refine wi_bipush (n := 72) (nx := 185) (r1 := 0) (r2 := 0) (r3 := 0) rfl (by decide) ?_
    refine wi_dup2 (nx := 186) (r1 := 0) (r2 := 0) (r3 := 0) rfl rfl rfl ?_
    have b28 := gi_b (lo := -2147483648) (hi := 2147483647) g 238 72 rfl
    refine wr_ia (k0 := 238) (a := 72) (f := 72) (x := h 238 72) (nx := 187) (r1 := 0) (r2 := 0) (r3 := 0) rfl (by decide) rfl (by omega) (by omega) (by decide) ((u26 238 72 rfl).trans ((u21 238 72 rfl).trans ((u16 238 72 rfl).trans (u14 238 72 rfl)))) ?_
    refine wi_iload (i := 5) (e := 0) (nx := 189) (r1 := 0) (r2 := 0) (r3 := 0) rfl rfl ?_
    refine wr_add (nx := 190) (r1 := 0) (r2 := 0) (r3 := 0) rfl (fun e29 (fe29 : e29 = (h 238 72) + 0) => ?_)
    refine wr_is (k0 := 238) (a := 72) (f := 72) (x := e29) (bl := -2147483648) (bh := 2147483647) (nx := 191) (r1 := 0) (r2 := 0) (r3 := 0) rfl (by decide) rfl (by omega) (by omega) (by decide) g26 rfl (by omega) (fun h30 g30 w30 u30 => ?_)
    have F31 := F27.then rfl u30
    refine wi_aload_n (i := 0) (x := 236) (nx := 192) (r1 := 0) (r2 := 0) (r3 := 0) rfl rfl ?_
    refine wr_gr (k0 := 236) (x := 238) (nx := 195) (r1 := 11) (r2 := 13) (r3 := 0) rfl rfl (by decide) rfl ⟨rfl, rfl⟩ rfl ?_
    refine wi_bipush (n := 67) (nx := 197) (r1 := 0) (r2 := 0) (r3 := 0) rfl (by decide) ?_
    refine wi_dup2 (nx := 198) (r1 := 0) (r2 := 0) (r3 := 0) rfl rfl rfl ?_
    refine wr_ia (k0 := 238) (a := 67) (f := 67) (x := h 238 67) (nx := 199) (r1 := 0) (r2 := 0) (r3 := 0) rfl (by decide) rfl (by omega) (by omega) (by decide) ((u30 238 67 rfl).trans ((u26 238 67 rfl).trans ((u21 238 67 rfl).trans ((u16 238 67 rfl).trans (u14 238 67 rfl))))) ?_
    refine wi_iconst (n := 1) (nx := 200) (r1 := 0) (r2 := 0) (r3 := 0) rfl ?_
    refine wr_add (nx := 201) (r1 := 0) (r2 := 0) (r3 := 0) rfl (fun e32 (fe32 : e32 = (h 238 67) + 1) => ?_)
    refine wr_is (k0 := 238) (a := 67) (f := 67) (x := e32) (bl := 0) (bh := 9999) (nx := 202) (r1 := 0) (r2 := 0) (r3 := 0) rfl (by decide) rfl (by omega) (by omega) (by decide) g30 rfl (by omega) (fun h33 g33 w33 u33 => ?_)
    have F34 := F31.then rfl u33
    refine wi_bipush (n := 120) (nx := 204) (r1 := 0) (r2 := 0) (r3 := 0) rfl (by decide) ?_
    refine wi_iconst (n := 4) (nx := 205) (r1 := 0) (r2 := 0) (r3 := 0) rfl ?_
    refine wi_aload_n (i := 0) (x := 236) (nx := 206) (r1 := 0) (r2 := 0) (r3 := 0) rfl rfl ?_
    refine wr_gr (k0 := 236) (x := 238) (nx := 209) (r1 := 11) (r2 := 13) (r3 := 0) rfl rfl (by decide) rfl ⟨rfl, rfl⟩ rfl ?_
    refine wi_bipush (n := 119) (nx := 211) (r1 := 0) (r2 := 0) (r3 := 0) rfl (by decide) ?_
    refine wr_ia (k0 := 238) (a := 119) (f := 119) (x := h 238 119) (nx := 212) (r1 := 0) (r2 := 0) (r3 := 0) rfl (by decide) rfl (by omega) (by omega) (by decide) ((u33 238 119 rfl).trans ((u30 238 119 rfl).trans ((u26 238 119 rfl).trans ((u21 238 119 rfl).trans ((u16 238 119 rfl).trans (u14 238 119 rfl)))))) ?_
    refine wi_bipush (n := 20) (nx := 214) (r1 := 0) (r2 := 0) (r3 := 0) rfl (by decide) ?_
    refine wr_iremC (nx := 215) (r1 := 0) (r2 := 0) (r3 := 0) rfl (by omega) (by decide) (fun e35 (fe35 : e35 = (h 238 119) % 20) => ?_)
    refine wr_mul (nx := 216) (r1 := 0) (r2 := 0) (r3 := 0) rfl (fun e36 (fe36 : e36 = 4 * e35) => ?_)
    refine wr_add (nx := 217) (r1 := 0) (r2 := 0) (r3 := 0) rfl (fun e37 (fe37 : e37 = 120 + e36) => ?_)
    refine wi_istore (i := 6) (e := e37) (lo2 := [(6, vi e37), (5, vi 0), (4, vi 0), (3, vi 0), (2, vi (h 238 i6)), (0, .ref 236), (1, vi a0)]) (nx := 219) (r1 := 0) (r2 := 0) (r3 := 0) rfl rfl ?_
    refine wi_aload_n (i := 0) (x := 236) (nx := 220) (r1 := 0) (r2 := 0) (r3 := 0) rfl rfl ?_
    refine wr_gr (k0 := 236) (x := 238) (nx := 223) (r1 := 11) (r2 := 13) (r3 := 0) rfl rfl (by decide) rfl ⟨rfl, rfl⟩ rfl ?_
    refine wi_iload (i := 6) (e := e37) (nx := 225) (r1 := 0) (r2 := 0) (r3 := 0) rfl rfl ?_
    refine wi_iload_n (i := 1) (e := a0) (nx := 226) (r1 := 0) (r2 := 0) (r3 := 0) rfl rfl ?_
    obtain ⟨i38, ei38⟩ : ∃ q : Nat, e37 = (q : Int) := ⟨(e37).toNat, by omega⟩
    refine wr_is (k0 := 238) (a := e37) (f := i38) (x := a0) (bl := -2147483648) (bh := 2147483647) (nx := 227) (r1 := 0) (r2 := 0) (r3 := 0) rfl (by decide) rfl (by omega) (by omega) (by decide) g33 (gi_rg 120 77 (fun _ => rfl) (by decide +kernel) (by omega)) (by omega) (fun h39 g39 w39 u39 => ?_)
    have F40 := F34.then rfl (FR.idx (p := 120) (q := 196) u39 (by omega))
    refine wi_aload_n (i := 0) (x := 236) (nx := 228) (r1 := 0) (r2 := 0) (r3 := 0) rfl rfl ?_
    refine wr_gr (k0 := 236) (x := 238) (nx := 231) (r1 := 11) (r2 := 13) (r3 := 0) rfl rfl (by decide) rfl ⟨rfl, rfl⟩ rfl ?_
    refine wi_iload (i := 6) (e := e37) (nx := 233) (r1 := 0) (r2 := 0) (r3 := 0) rfl rfl ?_
    refine wi_iconst (n := 1) (nx := 234) (r1 := 0) (r2 := 0) (r3 := 0) rfl ?_
    refine wr_add (nx := 235) (r1 := 0) (r2 := 0) (r3 := 0) rfl (fun e41 (fe41 : e41 = e37 + 1) => ?_)
    refine wi_iload_n (i := 2) (e := h 238 i6) (nx := 236) (r1 := 0) (r2 := 0) (r3 := 0) rfl rfl ?_
    obtain ⟨i42, ei42⟩ : ∃ q : Nat, e41 = (q : Int) := ⟨(e41).toNat, by omega⟩
    refine wr_is (k0 := 238) (a := e41) (f := i42) (x := h 238 i6) (bl := -2147483648) (bh := 2147483647) (nx := 237) (r1 := 0) (r2 := 0) (r3 := 0) rfl (by decide) rfl (by omega) (by omega) (by decide) g39 (gi_rg 121 77 (fun _ => rfl) (by decide +kernel) (by omega)) (by omega) (fun h43 g43 w43 u43 => ?_)
    have F44 := F40.then rfl (FR.idx (p := 121) (q := 197) u43 (by omega))
    refine wi_aload_n (i := 0) (x := 236) (nx := 238) (r1 := 0) (r2 := 0) (r3 := 0) rfl rfl ?_
    refine wr_gr (k0 := 236) (x := 238) (nx := 241) (r1 := 11) (r2 := 13) (r3 := 0) rfl rfl (by decide) rfl ⟨rfl, rfl⟩ rfl ?_
    refine wi_iload (i := 6) (e := e37) (nx := 243) (r1 := 0) (r2 := 0) (r3 := 0) rfl rfl ?_
    refine wi_iconst (n := 2) (nx := 244) (r1 := 0) (r2 := 0) (r3 := 0) rfl ?_
    refine wr_add (nx := 245) (r1 := 0) (r2 := 0) (r3 := 0) rfl (fun e45 (fe45 : e45 = e37 + 2) => ?_)
    refine wi_iload (i := 5) (e := 0) (nx := 247) (r1 := 0) (r2 := 0) (r3 := 0) rfl rfl ?_
    obtain ⟨i46, ei46⟩ : ∃ q : Nat, e45 = (q : Int) := ⟨(e45).toNat, by omega⟩
    refine wr_is (k0 := 238) (a := e45) (f := i46) (x := 0) (bl := -2147483648) (bh := 2147483647) (nx := 248) (r1 := 0) (r2 := 0) (r3 := 0) rfl (by decide) rfl (by omega) (by omega) (by decide) g43 (gi_rg 122 77 (fun _ => rfl) (by decide +kernel) (by omega)) (by omega) (fun h47 g47 w47 u47 => ?_)
    have F48 := F44.then rfl (FR.idx (p := 122) (q := 198) u47 (by omega))
    refine wi_aload_n (i := 0) (x := 236) (nx := 249) (r1 := 0) (r2 := 0) (r3 := 0) rfl rfl ?_
    refine wr_gr (k0 := 236) (x := 238) (nx := 252) (r1 := 11) (r2 := 13) (r3 := 0) rfl rfl (by decide) rfl ⟨rfl, rfl⟩ rfl ?_
    refine wi_iload (i := 6) (e := e37) (nx := 254) (r1 := 0) (r2 := 0) (r3 := 0) rfl rfl ?_
    refine wi_iconst (n := 3) (nx := 255) (r1 := 0) (r2 := 0) (r3 := 0) rfl ?_
    refine wr_add (nx := 256) (r1 := 0) (r2 := 0) (r3 := 0) rfl (fun e49 (fe49 : e49 = e37 + 3) => ?_)
    refine wi_iload_n (i := 3) (e := 0) (nx := 257) (r1 := 0) (r2 := 0) (r3 := 0) rfl rfl ?_
    refine wi_S (rest := [vi e49, .ref 238]) (as := [vi 0]) (nx := 260) (r1 := 207) (r2 := 17) (r3 := 0) rfl rfl rfl (of_decide_eq_true rfl) rfl rfl (of_decide_eq_true rfl) (of_decide_eq_true rfl) ?_
    refine wi_iload_n (i := 0) (e := 0) (nx := 1) (r1 := 0) (r2 := 0) (r3 := 0) rfl rfl ?_
    refine wi_if (cd := .eq) (nx := 4) (r1 := 8) (r2 := 0) (r3 := 0) rfl (by omega) (fun (q50 : 0 = 0) => ?_) (fun (q50 : ¬ (0 = 0)) => by exfalso; omega)
    refine wi_iconst (n := 0) (nx := 9) (r1 := 0) (r2 := 0) (r3 := 0) rfl ?_
    refine wi_ireturn (nx := 10) (r1 := 0) (r2 := 0) (r3 := 0) rfl rfl ?_
    refine wk_i ?_
    refine wi_iload (i := 4) (e := 0) (nx := 262) (r1 := 0) (r2 := 0) (r3 := 0) rfl rfl ?_
    refine wi_S (rest := [vi 0, vi e49, .ref 238]) (as := [vi 0]) (nx := 265) (r1 := 207) (r2 := 17) (r3 := 0) rfl rfl rfl (of_decide_eq_true rfl) rfl rfl (of_decide_eq_true rfl) (of_decide_eq_true rfl) ?_
    refine wi_iload_n (i := 0) (e := 0) (nx := 1) (r1 := 0) (r2 := 0) (r3 := 0) rfl rfl ?_
    refine wi_if (cd := .eq) (nx := 4) (r1 := 8) (r2 := 0) (r3 := 0) rfl (by omega) (fun (q51 : 0 = 0) => ?_) (fun (q51 : ¬ (0 = 0)) => by exfalso; omega)
    refine wi_iconst (n := 0) (nx := 9) (r1 := 0) (r2 := 0) (r3 := 0) rfl ?_
    refine wi_ireturn (nx := 10) (r1 := 0) (r2 := 0) (r3 := 0) rfl rfl ?_
    refine wk_i ?_
    refine wi_iconst (n := 1) (nx := 266) (r1 := 0) (r2 := 0) (r3 := 0) rfl ?_
    refine wi_ishl (e := 0) (nx := 267) (r1 := 0) (r2 := 0) (r3 := 0) rfl (by decide) ?_
    refine wi_ior (e := 0) (nx := 268) (r1 := 0) (r2 := 0) (r3 := 0) rfl (by decide) ?_
    refine wi_aload_n (i := 0) (x := 236) (nx := 269) (r1 := 0) (r2 := 0) (r3 := 0) rfl rfl ?_
    refine wr_gr (k0 := 236) (x := 238) (nx := 272) (r1 := 11) (r2 := 13) (r3 := 0) rfl rfl (by decide) rfl ⟨rfl, rfl⟩ rfl ?_
    refine wi_bipush (n := 43) (nx := 274) (r1 := 0) (r2 := 0) (r3 := 0) rfl (by decide) ?_
    refine wi_iload_n (i := 1) (e := a0) (nx := 275) (r1 := 0) (r2 := 0) (r3 := 0) rfl rfl ?_
    refine wr_add (nx := 276) (r1 := 0) (r2 := 0) (r3 := 0) rfl (fun e52 (fe52 : e52 = 43 + a0) => ?_)
    obtain ⟨i53, ei53⟩ : ∃ q : Nat, e52 = (q : Int) := ⟨(e52).toNat, by omega⟩
    have b54 := gi_b (lo := 0) (hi := 999) g 238 i53 (gi_rg 43 12 (fun _ => rfl) (by decide +kernel) (by omega))
    refine wr_ia (k0 := 238) (a := e52) (f := i53) (x := h 238 i53) (nx := 277) (r1 := 0) (r2 := 0) (r3 := 0) rfl (by decide) rfl (by omega) (by omega) (by decide) ((u47 238 i53 (fn_i (by omega) fn_0)).trans ((u43 238 i53 (fn_i (by omega) fn_0)).trans ((u39 238 i53 (fn_i (by omega) fn_0)).trans ((u33 238 i53 (fn_i (by omega) fn_0)).trans ((u30 238 i53 (fn_i (by omega) fn_0)).trans ((u26 238 i53 (fn_i (by omega) fn_0)).trans ((u21 238 i53 (fn_i (by omega) fn_0)).trans ((u16 238 i53 (fn_i (by omega) fn_0)).trans (u14 238 i53 (fn_i (by omega) fn_0)))))))))) ?_
    refine wi_if (cd := .le) (nx := 280) (r1 := 284) (r2 := 0) (r3 := 0) rfl (by omega) (fun (q55 : (h 238 i53) ≤ 0) => ?_) (fun (q55 : ¬ ((h 238 i53) ≤ 0)) => ?_)
    ·
      refine wi_iconst (n := 0) (nx := 285) (r1 := 0) (r2 := 0) (r3 := 0) rfl ?_
      refine wi_S (rest := [vi 0, vi e49, .ref 238]) (as := [vi 0]) (nx := 288) (r1 := 207) (r2 := 17) (r3 := 0) rfl rfl rfl (of_decide_eq_true rfl) rfl rfl (of_decide_eq_true rfl) (of_decide_eq_true rfl) ?_
      refine wi_iload_n (i := 0) (e := 0) (nx := 1) (r1 := 0) (r2 := 0) (r3 := 0) rfl rfl ?_
      refine wi_if (cd := .eq) (nx := 4) (r1 := 8) (r2 := 0) (r3 := 0) rfl (by omega) (fun (q56 : 0 = 0) => ?_) (fun (q56 : ¬ (0 = 0)) => by exfalso; omega)
      refine wi_iconst (n := 0) (nx := 9) (r1 := 0) (r2 := 0) (r3 := 0) rfl ?_
      refine wi_ireturn (nx := 10) (r1 := 0) (r2 := 0) (r3 := 0) rfl rfl ?_
      refine wk_i ?_
      refine wi_iconst (n := 2) (nx := 289) (r1 := 0) (r2 := 0) (r3 := 0) rfl ?_
      refine wi_ishl (e := 0) (nx := 290) (r1 := 0) (r2 := 0) (r3 := 0) rfl (by decide) ?_
      refine wi_ior (e := 0) (nx := 291) (r1 := 0) (r2 := 0) (r3 := 0) rfl (by decide) ?_
      obtain ⟨i57, ei57⟩ : ∃ q : Nat, e49 = (q : Int) := ⟨(e49).toNat, by omega⟩
      refine wr_is (k0 := 238) (a := e49) (f := i57) (x := 0) (bl := -2147483648) (bh := 2147483647) (nx := 292) (r1 := 0) (r2 := 0) (r3 := 0) rfl (by decide) rfl (by omega) (by omega) (by decide) g47 (gi_rg 123 77 (fun _ => rfl) (by decide +kernel) (by omega)) (by omega) (fun h58 g58 w58 u58 => ?_)
      have F59 := F48.then rfl (FR.idx (p := 123) (q := 199) u58 (by omega))
      refine wi_aload_n (i := 0) (x := 236) (nx := 293) (r1 := 0) (r2 := 0) (r3 := 0) rfl rfl ?_
      refine wr_gr (k0 := 236) (x := 238) (nx := 296) (r1 := 11) (r2 := 13) (r3 := 0) rfl rfl (by decide) rfl ⟨rfl, rfl⟩ rfl ?_
      refine wi_bipush (n := 119) (nx := 298) (r1 := 0) (r2 := 0) (r3 := 0) rfl (by decide) ?_
      refine wi_dup2 (nx := 299) (r1 := 0) (r2 := 0) (r3 := 0) rfl rfl rfl ?_
      refine wr_ia (k0 := 238) (a := 119) (f := 119) (x := h 238 119) (nx := 300) (r1 := 0) (r2 := 0) (r3 := 0) rfl (by decide) rfl (by omega) (by omega) (by decide) ((u58 238 119 (fn_i (by omega) fn_0)).trans ((u47 238 119 (fn_i (by omega) fn_0)).trans ((u43 238 119 (fn_i (by omega) fn_0)).trans ((u39 238 119 (fn_i (by omega) fn_0)).trans ((u33 238 119 rfl).trans ((u30 238 119 rfl).trans ((u26 238 119 rfl).trans ((u21 238 119 rfl).trans ((u16 238 119 rfl).trans (u14 238 119 rfl)))))))))) ?_
      refine wi_iconst (n := 1) (nx := 301) (r1 := 0) (r2 := 0) (r3 := 0) rfl ?_
      refine wr_add (nx := 302) (r1 := 0) (r2 := 0) (r3 := 0) rfl (fun e60 (fe60 : e60 = (h 238 119) + 1) => ?_)
      refine wr_is (k0 := 238) (a := 119) (f := 119) (x := e60) (bl := 0) (bh := 9999) (nx := 303) (r1 := 0) (r2 := 0) (r3 := 0) rfl (by decide) rfl (by omega) (by omega) (by decide) g58 rfl (by omega) (fun h61 g61 w61 u61 => ?_)
      have F62 := F59.then rfl u61
      refine wi_return (nx := 304) (r1 := 0) (r2 := 0) (r3 := 0) rfl rfl ?_
      have e63 : h61 238 119 = e60 := w61
      have e64 : h61 238 67 = e32 := ((u61 238 67 rfl).trans ((u58 238 67 (fn_i (by omega) fn_0)).trans ((u47 238 67 (fn_i (by omega) fn_0)).trans ((u43 238 67 (fn_i (by omega) fn_0)).trans ((u39 238 67 (fn_i (by omega) fn_0)).trans w33)))))
      have e65 : h61 238 69 = 1 := ((u61 238 69 rfl).trans ((u58 238 69 (fn_i (by omega) fn_0)).trans ((u47 238 69 (fn_i (by omega) fn_0)).trans ((u43 238 69 (fn_i (by omega) fn_0)).trans ((u39 238 69 (fn_i (by omega) fn_0)).trans ((u33 238 69 rfl).trans ((u30 238 69 rfl).trans ((u26 238 69 rfl).trans ((u21 238 69 rfl).trans ((u16 238 69 rfl).trans w14))))))))))
      have e66 : h61 238 5 = h 238 5 := ((u61 238 5 rfl).trans ((u58 238 5 (fn_i (by omega) fn_0)).trans ((u47 238 5 (fn_i (by omega) fn_0)).trans ((u43 238 5 (fn_i (by omega) fn_0)).trans ((u39 238 5 (fn_i (by omega) fn_0)).trans ((u33 238 5 rfl).trans ((u30 238 5 rfl).trans ((u26 238 5 rfl).trans ((u21 238 5 rfl).trans ((u16 238 5 rfl).trans (u14 238 5 rfl)))))))))))
      exact k h61 g61 F62 (show (h61 238 119) ≤ (h61 238 67) by omega) (show (h61 238 69) ≤ (h61 238 5) by omega)
    ·
      refine wi_iconst (n := 1) (nx := 281) (r1 := 0) (r2 := 0) (r3 := 0) rfl ?_
      refine wi_goto (nx := 284) (r1 := 285) (r2 := 0) (r3 := 0) rfl ?_
      refine wi_S (rest := [vi 0, vi e49, .ref 238]) (as := [vi 1]) (nx := 288) (r1 := 207) (r2 := 17) (r3 := 0) rfl rfl rfl (of_decide_eq_true rfl) rfl rfl (of_decide_eq_true rfl) (of_decide_eq_true rfl) ?_
      refine wi_iload_n (i := 0) (e := 1) (nx := 1) (r1 := 0) (r2 := 0) (r3 := 0) rfl rfl ?_
      refine wi_if (cd := .eq) (nx := 4) (r1 := 8) (r2 := 0) (r3 := 0) rfl (by omega) (fun (q56 : 1 = 0) => by exfalso; omega) (fun (q56 : ¬ (1 = 0)) => ?_)
      refine wi_iconst (n := 1) (nx := 5) (r1 := 0) (r2 := 0) (r3 := 0) rfl ?_
      refine wi_goto (nx := 8) (r1 := 9) (r2 := 0) (r3 := 0) rfl ?_
      refine wi_ireturn (nx := 10) (r1 := 0) (r2 := 0) (r3 := 0) rfl rfl ?_
      refine wk_i ?_
      refine wi_iconst (n := 2) (nx := 289) (r1 := 0) (r2 := 0) (r3 := 0) rfl ?_
      refine wi_ishl (e := 4) (nx := 290) (r1 := 0) (r2 := 0) (r3 := 0) rfl (by decide) ?_
      refine wi_ior (e := 4) (nx := 291) (r1 := 0) (r2 := 0) (r3 := 0) rfl (by decide) ?_
      obtain ⟨i57, ei57⟩ : ∃ q : Nat, e49 = (q : Int) := ⟨(e49).toNat, by omega⟩
      refine wr_is (k0 := 238) (a := e49) (f := i57) (x := 4) (bl := -2147483648) (bh := 2147483647) (nx := 292) (r1 := 0) (r2 := 0) (r3 := 0) rfl (by decide) rfl (by omega) (by omega) (by decide) g47 (gi_rg 123 77 (fun _ => rfl) (by decide +kernel) (by omega)) (by omega) (fun h58 g58 w58 u58 => ?_)
      have F59 := F48.then rfl (FR.idx (p := 123) (q := 199) u58 (by omega))
      refine wi_aload_n (i := 0) (x := 236) (nx := 293) (r1 := 0) (r2 := 0) (r3 := 0) rfl rfl ?_
      refine wr_gr (k0 := 236) (x := 238) (nx := 296) (r1 := 11) (r2 := 13) (r3 := 0) rfl rfl (by decide) rfl ⟨rfl, rfl⟩ rfl ?_
      refine wi_bipush (n := 119) (nx := 298) (r1 := 0) (r2 := 0) (r3 := 0) rfl (by decide) ?_
      refine wi_dup2 (nx := 299) (r1 := 0) (r2 := 0) (r3 := 0) rfl rfl rfl ?_
      refine wr_ia (k0 := 238) (a := 119) (f := 119) (x := h 238 119) (nx := 300) (r1 := 0) (r2 := 0) (r3 := 0) rfl (by decide) rfl (by omega) (by omega) (by decide) ((u58 238 119 (fn_i (by omega) fn_0)).trans ((u47 238 119 (fn_i (by omega) fn_0)).trans ((u43 238 119 (fn_i (by omega) fn_0)).trans ((u39 238 119 (fn_i (by omega) fn_0)).trans ((u33 238 119 rfl).trans ((u30 238 119 rfl).trans ((u26 238 119 rfl).trans ((u21 238 119 rfl).trans ((u16 238 119 rfl).trans (u14 238 119 rfl)))))))))) ?_
      refine wi_iconst (n := 1) (nx := 301) (r1 := 0) (r2 := 0) (r3 := 0) rfl ?_
      refine wr_add (nx := 302) (r1 := 0) (r2 := 0) (r3 := 0) rfl (fun e60 (fe60 : e60 = (h 238 119) + 1) => ?_)
      refine wr_is (k0 := 238) (a := 119) (f := 119) (x := e60) (bl := 0) (bh := 9999) (nx := 303) (r1 := 0) (r2 := 0) (r3 := 0) rfl (by decide) rfl (by omega) (by omega) (by decide) g58 rfl (by omega) (fun h61 g61 w61 u61 => ?_)
      have F62 := F59.then rfl u61
      refine wi_return (nx := 304) (r1 := 0) (r2 := 0) (r3 := 0) rfl rfl ?_
      have e63 : h61 238 119 = e60 := w61
      have e64 : h61 238 67 = e32 := ((u61 238 67 rfl).trans ((u58 238 67 (fn_i (by omega) fn_0)).trans ((u47 238 67 (fn_i (by omega) fn_0)).trans ((u43 238 67 (fn_i (by omega) fn_0)).trans ((u39 238 67 (fn_i (by omega) fn_0)).trans w33)))))
      have e65 : h61 238 69 = 1 := ((u61 238 69 rfl).trans ((u58 238 69 (fn_i (by omega) fn_0)).trans ((u47 238 69 (fn_i (by omega) fn_0)).trans ((u43 238 69 (fn_i (by omega) fn_0)).trans ((u39 238 69 (fn_i (by omega) fn_0)).trans ((u33 238 69 rfl).trans ((u30 238 69 rfl).trans ((u26 238 69 rfl).trans ((u21 238 69 rfl).trans ((u16 238 69 rfl).trans w14))))))))))
      have e66 : h61 238 5 = h 238 5 := ((u61 238 5 rfl).trans ((u58 238 5 (fn_i (by omega) fn_0)).trans ((u47 238 5 (fn_i (by omega) fn_0)).trans ((u43 238 5 (fn_i (by omega) fn_0)).trans ((u39 238 5 (fn_i (by omega) fn_0)).trans ((u33 238 5 rfl).trans ((u30 238 5 rfl).trans ((u26 238 5 rfl).trans ((u21 238 5 rfl).trans ((u16 238 5 rfl).trans (u14 238 5 rfl)))))))))))
      exact k h61 g61 F62 (show (h61 238 119) ≤ (h61 238 67) by omega) (show (h61 238 69) ≤ (h61 238 5) by omega)
  ·
    refine wi_aload_n (i := 0) (x := 236) (nx := 22) (r1 := 0) (r2 := 0) (r3 := 0) rfl rfl ?_
    refine wr_gr (k0 := 236) (x := 238) (nx := 25) (r1 := 11) (r2 := 13) (r3 := 0) rfl rfl (by decide) rfl ⟨rfl, rfl⟩ rfl ?_
    refine wi_bipush (n := 68) (nx := 27) (r1 := 0) (r2 := 0) (r3 := 0) rfl (by decide) ?_
    refine wr_ia (k0 := 238) (a := 68) (f := 68) (x := h 238 68) (nx := 28) (r1 := 0) (r2 := 0) (r3 := 0) rfl (by decide) rfl (by omega) (by omega) (by decide) rfl ?_
    refine wi_iload_n (i := 2) (e := h 238 i6) (nx := 29) (r1 := 0) (r2 := 0) (r3 := 0) rfl rfl ?_
    refine wi_icmp (cd := .eq) (nx := 32) (r1 := 36) (r2 := 0) (r3 := 0) rfl (by omega) (by omega) (fun (q10 : (h 238 68) = (h 238 i6)) => ?_) (fun (q10 : ¬ ((h 238 68) = (h 238 i6))) => ?_)
    ·
      refine wi_iconst (n := 0) (nx := 37) (r1 := 0) (r2 := 0) (r3 := 0) rfl ?_
      refine wi_istore_n (i := 3) (e := 0) (lo2 := [(3, vi 0), (2, vi (h 238 i6)), (0, .ref 236), (1, vi a0)]) (nx := 38) (r1 := 0) (r2 := 0) (r3 := 0) rfl rfl ?_
      refine wi_aload_n (i := 0) (x := 236) (nx := 39) (r1 := 0) (r2 := 0) (r3 := 0) rfl rfl ?_
      refine wr_gr (k0 := 236) (x := 238) (nx := 42) (r1 := 11) (r2 := 13) (r3 := 0) rfl rfl (by decide) rfl ⟨rfl, rfl⟩ rfl ?_
      refine wi_bipush (n := 68) (nx := 44) (r1 := 0) (r2 := 0) (r3 := 0) rfl (by decide) ?_
      refine wr_ia (k0 := 238) (a := 68) (f := 68) (x := h 238 68) (nx := 45) (r1 := 0) (r2 := 0) (r3 := 0) rfl (by decide) rfl (by omega) (by omega) (by decide) rfl ?_
      refine wi_iload_n (i := 2) (e := h 238 i6) (nx := 46) (r1 := 0) (r2 := 0) (r3 := 0) rfl rfl ?_
      refine wi_icmp (cd := .ne) (nx := 49) (r1 := 69) (r2 := 0) (r3 := 0) rfl (by omega) (by omega) (fun (q11 : (h 238 68) ≠ (h 238 i6)) => by exfalso; omega) (fun (q11 : ¬ ((h 238 68) ≠ (h 238 i6))) => ?_)
      refine wi_aload_n (i := 0) (x := 236) (nx := 50) (r1 := 0) (r2 := 0) (r3 := 0) rfl rfl ?_
      refine wr_gr (k0 := 236) (x := 238) (nx := 53) (r1 := 11) (r2 := 13) (r3 := 0) rfl rfl (by decide) rfl ⟨rfl, rfl⟩ rfl ?_
      refine wi_bipush (n := 69) (nx := 55) (r1 := 0) (r2 := 0) (r3 := 0) rfl (by decide) ?_
      refine wr_ia (k0 := 238) (a := 69) (f := 69) (x := h 238 69) (nx := 56) (r1 := 0) (r2 := 0) (r3 := 0) rfl (by decide) rfl (by omega) (by omega) (by decide) rfl ?_
      refine wi_aload_n (i := 0) (x := 236) (nx := 57) (r1 := 0) (r2 := 0) (r3 := 0) rfl rfl ?_
      refine wr_gr (k0 := 236) (x := 238) (nx := 60) (r1 := 11) (r2 := 13) (r3 := 0) rfl rfl (by decide) rfl ⟨rfl, rfl⟩ rfl ?_
      refine wi_iconst (n := 5) (nx := 61) (r1 := 0) (r2 := 0) (r3 := 0) rfl ?_
      refine wr_ia (k0 := 238) (a := 5) (f := 5) (x := h 238 5) (nx := 62) (r1 := 0) (r2 := 0) (r3 := 0) rfl (by decide) rfl (by omega) (by omega) (by decide) rfl ?_
      refine wi_icmp (cd := .ne) (nx := 65) (r1 := 69) (r2 := 0) (r3 := 0) rfl (by omega) (by omega) (fun (q12 : (h 238 69) ≠ (h 238 5)) => ?_) (fun (q12 : ¬ ((h 238 69) ≠ (h 238 5))) => ?_)
      ·
        refine wi_iconst (n := 0) (nx := 70) (r1 := 0) (r2 := 0) (r3 := 0) rfl ?_
        refine wi_istore (i := 4) (e := 0) (lo2 := [(4, vi 0), (3, vi 0), (2, vi (h 238 i6)), (0, .ref 236), (1, vi a0)]) (nx := 72) (r1 := 0) (r2 := 0) (r3 := 0) rfl rfl ?_
        refine wi_iload_n (i := 3) (e := 0) (nx := 73) (r1 := 0) (r2 := 0) (r3 := 0) rfl rfl ?_
        refine wi_if (cd := .eq) (nx := 76) (r1 := 88) (r2 := 0) (r3 := 0) rfl (by omega) (fun (q13 : 0 = 0) => ?_) (fun (q13 : ¬ (0 = 0)) => by exfalso; omega)
        refine wi_iload (i := 4) (e := 0) (nx := 90) (r1 := 0) (r2 := 0) (r3 := 0) rfl rfl ?_
        refine wi_if (cd := .eq) (nx := 93) (r1 := 103) (r2 := 0) (r3 := 0) rfl (by omega) (fun (q14 : 0 = 0) => ?_) (fun (q14 : ¬ (0 = 0)) => by exfalso; omega)
        refine wi_iconst (n := 0) (nx := 104) (r1 := 0) (r2 := 0) (r3 := 0) rfl ?_
        refine wi_istore (i := 5) (e := 0) (lo2 := [(5, vi 0), (4, vi 0), (3, vi 0), (2, vi (h 238 i6)), (0, .ref 236), (1, vi a0)]) (nx := 106) (r1 := 0) (r2 := 0) (r3 := 0) rfl rfl ?_
        refine wi_aload_n (i := 0) (x := 236) (nx := 107) (r1 := 0) (r2 := 0) (r3 := 0) rfl rfl ?_
        refine wr_gr (k0 := 236) (x := 238) (nx := 110) (r1 := 11) (r2 := 13) (r3 := 0) rfl rfl (by decide) rfl ⟨rfl, rfl⟩ rfl ?_
        refine wi_bipush (n := 69) (nx := 112) (r1 := 0) (r2 := 0) (r3 := 0) rfl (by decide) ?_
        refine wi_aload_n (i := 0) (x := 236) (nx := 113) (r1 := 0) (r2 := 0) (r3 := 0) rfl rfl ?_
        refine wr_gr (k0 := 236) (x := 238) (nx := 116) (r1 := 11) (r2 := 13) (r3 := 0) rfl rfl (by decide) rfl ⟨rfl, rfl⟩ rfl ?_
        refine wi_bipush (n := 68) (nx := 118) (r1 := 0) (r2 := 0) (r3 := 0) rfl (by decide) ?_
        refine wr_ia (k0 := 238) (a := 68) (f := 68) (x := h 238 68) (nx := 119) (r1 := 0) (r2 := 0) (r3 := 0) rfl (by decide) rfl (by omega) (by omega) (by decide) rfl ?_
        refine wi_iload_n (i := 2) (e := h 238 i6) (nx := 120) (r1 := 0) (r2 := 0) (r3 := 0) rfl rfl ?_
        refine wi_icmp (cd := .ne) (nx := 123) (r1 := 140) (r2 := 0) (r3 := 0) rfl (by omega) (by omega) (fun (q15 : (h 238 68) ≠ (h 238 i6)) => by exfalso; omega) (fun (q15 : ¬ ((h 238 68) ≠ (h 238 i6))) => ?_)
        refine wi_iload (i := 4) (e := 0) (nx := 125) (r1 := 0) (r2 := 0) (r3 := 0) rfl rfl ?_
        refine wi_if (cd := .ne) (nx := 128) (r1 := 140) (r2 := 0) (r3 := 0) rfl (by omega) (fun (q16 : 0 ≠ 0) => by exfalso; omega) (fun (q16 : ¬ (0 ≠ 0)) => ?_)
        refine wi_aload_n (i := 0) (x := 236) (nx := 129) (r1 := 0) (r2 := 0) (r3 := 0) rfl rfl ?_
        refine wr_gr (k0 := 236) (x := 238) (nx := 132) (r1 := 11) (r2 := 13) (r3 := 0) rfl rfl (by decide) rfl ⟨rfl, rfl⟩ rfl ?_
        refine wi_bipush (n := 69) (nx := 134) (r1 := 0) (r2 := 0) (r3 := 0) rfl (by decide) ?_
        refine wr_ia (k0 := 238) (a := 69) (f := 69) (x := h 238 69) (nx := 135) (r1 := 0) (r2 := 0) (r3 := 0) rfl (by decide) rfl (by omega) (by omega) (by decide) rfl ?_
        refine wi_iconst (n := 1) (nx := 136) (r1 := 0) (r2 := 0) (r3 := 0) rfl ?_
        refine wr_add (nx := 137) (r1 := 0) (r2 := 0) (r3 := 0) rfl (fun e17 (fe17 : e17 = (h 238 69) + 1) => ?_)
        refine wi_goto (nx := 140) (r1 := 141) (r2 := 0) (r3 := 0) rfl ?_
        refine wr_is (k0 := 238) (a := 69) (f := 69) (x := e17) (bl := 0) (bh := 9) (nx := 142) (r1 := 0) (r2 := 0) (r3 := 0) rfl (by decide) rfl (by omega) (by omega) (by decide) g rfl (by omega) (fun h18 g18 w18 u18 => ?_)
        have F19 := F0.then rfl u18
        refine wi_aload_n (i := 0) (x := 236) (nx := 143) (r1 := 0) (r2 := 0) (r3 := 0) rfl rfl ?_
        refine wr_gr (k0 := 236) (x := 238) (nx := 146) (r1 := 11) (r2 := 13) (r3 := 0) rfl rfl (by decide) rfl ⟨rfl, rfl⟩ rfl ?_
        refine wi_bipush (n := 68) (nx := 148) (r1 := 0) (r2 := 0) (r3 := 0) rfl (by decide) ?_
        refine wi_iload_n (i := 2) (e := h 238 i6) (nx := 149) (r1 := 0) (r2 := 0) (r3 := 0) rfl rfl ?_
        refine wr_is (k0 := 238) (a := 68) (f := 68) (x := h 238 i6) (bl := -1) (bh := 4) (nx := 150) (r1 := 0) (r2 := 0) (r3 := 0) rfl (by decide) rfl (by omega) (by omega) (by decide) g18 rfl (by omega) (fun h20 g20 w20 u20 => ?_)
        have F21 := F19.then rfl u20
        refine wi_aload_n (i := 0) (x := 236) (nx := 151) (r1 := 0) (r2 := 0) (r3 := 0) rfl rfl ?_
        refine wr_gr (k0 := 236) (x := 238) (nx := 154) (r1 := 11) (r2 := 13) (r3 := 0) rfl rfl (by decide) rfl ⟨rfl, rfl⟩ rfl ?_
        refine wi_bipush (n := 70) (nx := 156) (r1 := 0) (r2 := 0) (r3 := 0) rfl (by decide) ?_
        refine wi_dup2 (nx := 157) (r1 := 0) (r2 := 0) (r3 := 0) rfl rfl rfl ?_
        have b22 := gi_b (lo := -2147483648) (hi := 2147483647) g 238 70 rfl
        refine wr_ia (k0 := 238) (a := 70) (f := 70) (x := h 238 70) (nx := 158) (r1 := 0) (r2 := 0) (r3 := 0) rfl (by decide) rfl (by omega) (by omega) (by decide) ((u20 238 70 rfl).trans (u18 238 70 rfl)) ?_
        refine wi_iload_n (i := 3) (e := 0) (nx := 159) (r1 := 0) (r2 := 0) (r3 := 0) rfl rfl ?_
        refine wi_S (rest := [vi (h 238 70), vi 70, .ref 238]) (as := [vi 0]) (nx := 162) (r1 := 207) (r2 := 17) (r3 := 0) rfl rfl rfl (of_decide_eq_true rfl) rfl rfl (of_decide_eq_true rfl) (of_decide_eq_true rfl) ?_
        refine wi_iload_n (i := 0) (e := 0) (nx := 1) (r1 := 0) (r2 := 0) (r3 := 0) rfl rfl ?_
        refine wi_if (cd := .eq) (nx := 4) (r1 := 8) (r2 := 0) (r3 := 0) rfl (by omega) (fun (q23 : 0 = 0) => ?_) (fun (q23 : ¬ (0 = 0)) => by exfalso; omega)
        refine wi_iconst (n := 0) (nx := 9) (r1 := 0) (r2 := 0) (r3 := 0) rfl ?_
        refine wi_ireturn (nx := 10) (r1 := 0) (r2 := 0) (r3 := 0) rfl rfl ?_
        refine wk_i ?_
        refine wr_add (nx := 163) (r1 := 0) (r2 := 0) (r3 := 0) rfl (fun e24 (fe24 : e24 = (h 238 70) + 0) => ?_)
        refine wr_is (k0 := 238) (a := 70) (f := 70) (x := e24) (bl := -2147483648) (bh := 2147483647) (nx := 164) (r1 := 0) (r2 := 0) (r3 := 0) rfl (by decide) rfl (by omega) (by omega) (by decide) g20 rfl (by omega) (fun h25 g25 w25 u25 => ?_)
        have F26 := F21.then rfl u25
        refine wi_aload_n (i := 0) (x := 236) (nx := 165) (r1 := 0) (r2 := 0) (r3 := 0) rfl rfl ?_
        refine wr_gr (k0 := 236) (x := 238) (nx := 168) (r1 := 11) (r2 := 13) (r3 := 0) rfl rfl (by decide) rfl ⟨rfl, rfl⟩ rfl ?_
        refine wi_bipush (n := 71) (nx := 170) (r1 := 0) (r2 := 0) (r3 := 0) rfl (by decide) ?_
        refine wi_dup2 (nx := 171) (r1 := 0) (r2 := 0) (r3 := 0) rfl rfl rfl ?_
        have b27 := gi_b (lo := -2147483648) (hi := 2147483647) g 238 71 rfl
        refine wr_ia (k0 := 238) (a := 71) (f := 71) (x := h 238 71) (nx := 172) (r1 := 0) (r2 := 0) (r3 := 0) rfl (by decide) rfl (by omega) (by omega) (by decide) ((u25 238 71 rfl).trans ((u20 238 71 rfl).trans (u18 238 71 rfl))) ?_
        refine wi_iload (i := 4) (e := 0) (nx := 174) (r1 := 0) (r2 := 0) (r3 := 0) rfl rfl ?_
        refine wi_S (rest := [vi (h 238 71), vi 71, .ref 238]) (as := [vi 0]) (nx := 177) (r1 := 207) (r2 := 17) (r3 := 0) rfl rfl rfl (of_decide_eq_true rfl) rfl rfl (of_decide_eq_true rfl) (of_decide_eq_true rfl) ?_
        refine wi_iload_n (i := 0) (e := 0) (nx := 1) (r1 := 0) (r2 := 0) (r3 := 0) rfl rfl ?_
        refine wi_if (cd := .eq) (nx := 4) (r1 := 8) (r2 := 0) (r3 := 0) rfl (by omega) (fun (q28 : 0 = 0) => ?_) (fun (q28 : ¬ (0 = 0)) => by exfalso; omega)
        refine wi_iconst (n := 0) (nx := 9) (r1 := 0) (r2 := 0) (r3 := 0) rfl ?_
        refine wi_ireturn (nx := 10) (r1 := 0) (r2 := 0) (r3 := 0) rfl rfl ?_
        refine wk_i ?_
        refine wr_add (nx := 178) (r1 := 0) (r2 := 0) (r3 := 0) rfl (fun e29 (fe29 : e29 = (h 238 71) + 0) => ?_)
        refine wr_is (k0 := 238) (a := 71) (f := 71) (x := e29) (bl := -2147483648) (bh := 2147483647) (nx := 179) (r1 := 0) (r2 := 0) (r3 := 0) rfl (by decide) rfl (by omega) (by omega) (by decide) g25 rfl (by omega) (fun h30 g30 w30 u30 => ?_)
        have F31 := F26.then rfl u30
        refine wi_aload_n (i := 0) (x := 236) (nx := 180) (r1 := 0) (r2 := 0) (r3 := 0) rfl rfl ?_
        refine wr_gr (k0 := 236) (x := 238) (nx := 183) (r1 := 11) (r2 := 13) (r3 := 0) rfl rfl (by decide) rfl ⟨rfl, rfl⟩ rfl ?_
        refine wi_bipush (n := 72) (nx := 185) (r1 := 0) (r2 := 0) (r3 := 0) rfl (by decide) ?_
        refine wi_dup2 (nx := 186) (r1 := 0) (r2 := 0) (r3 := 0) rfl rfl rfl ?_
        have b32 := gi_b (lo := -2147483648) (hi := 2147483647) g 238 72 rfl
        refine wr_ia (k0 := 238) (a := 72) (f := 72) (x := h 238 72) (nx := 187) (r1 := 0) (r2 := 0) (r3 := 0) rfl (by decide) rfl (by omega) (by omega) (by decide) ((u30 238 72 rfl).trans ((u25 238 72 rfl).trans ((u20 238 72 rfl).trans (u18 238 72 rfl)))) ?_
        refine wi_iload (i := 5) (e := 0) (nx := 189) (r1 := 0) (r2 := 0) (r3 := 0) rfl rfl ?_
        refine wr_add (nx := 190) (r1 := 0) (r2 := 0) (r3 := 0) rfl (fun e33 (fe33 : e33 = (h 238 72) + 0) => ?_)
        refine wr_is (k0 := 238) (a := 72) (f := 72) (x := e33) (bl := -2147483648) (bh := 2147483647) (nx := 191) (r1 := 0) (r2 := 0) (r3 := 0) rfl (by decide) rfl (by omega) (by omega) (by decide) g30 rfl (by omega) (fun h34 g34 w34 u34 => ?_)
        have F35 := F31.then rfl u34
        refine wi_aload_n (i := 0) (x := 236) (nx := 192) (r1 := 0) (r2 := 0) (r3 := 0) rfl rfl ?_
        refine wr_gr (k0 := 236) (x := 238) (nx := 195) (r1 := 11) (r2 := 13) (r3 := 0) rfl rfl (by decide) rfl ⟨rfl, rfl⟩ rfl ?_
        refine wi_bipush (n := 67) (nx := 197) (r1 := 0) (r2 := 0) (r3 := 0) rfl (by decide) ?_
        refine wi_dup2 (nx := 198) (r1 := 0) (r2 := 0) (r3 := 0) rfl rfl rfl ?_
        refine wr_ia (k0 := 238) (a := 67) (f := 67) (x := h 238 67) (nx := 199) (r1 := 0) (r2 := 0) (r3 := 0) rfl (by decide) rfl (by omega) (by omega) (by decide) ((u34 238 67 rfl).trans ((u30 238 67 rfl).trans ((u25 238 67 rfl).trans ((u20 238 67 rfl).trans (u18 238 67 rfl))))) ?_
        refine wi_iconst (n := 1) (nx := 200) (r1 := 0) (r2 := 0) (r3 := 0) rfl ?_
        refine wr_add (nx := 201) (r1 := 0) (r2 := 0) (r3 := 0) rfl (fun e36 (fe36 : e36 = (h 238 67) + 1) => ?_)
        refine wr_is (k0 := 238) (a := 67) (f := 67) (x := e36) (bl := 0) (bh := 9999) (nx := 202) (r1 := 0) (r2 := 0) (r3 := 0) rfl (by decide) rfl (by omega) (by omega) (by decide) g34 rfl (by omega) (fun h37 g37 w37 u37 => ?_)
        have F38 := F35.then rfl u37
        refine wi_bipush (n := 120) (nx := 204) (r1 := 0) (r2 := 0) (r3 := 0) rfl (by decide) ?_
        refine wi_iconst (n := 4) (nx := 205) (r1 := 0) (r2 := 0) (r3 := 0) rfl ?_
        refine wi_aload_n (i := 0) (x := 236) (nx := 206) (r1 := 0) (r2 := 0) (r3 := 0) rfl rfl ?_
        refine wr_gr (k0 := 236) (x := 238) (nx := 209) (r1 := 11) (r2 := 13) (r3 := 0) rfl rfl (by decide) rfl ⟨rfl, rfl⟩ rfl ?_
        refine wi_bipush (n := 119) (nx := 211) (r1 := 0) (r2 := 0) (r3 := 0) rfl (by decide) ?_
        refine wr_ia (k0 := 238) (a := 119) (f := 119) (x := h 238 119) (nx := 212) (r1 := 0) (r2 := 0) (r3 := 0) rfl (by decide) rfl (by omega) (by omega) (by decide) ((u37 238 119 rfl).trans ((u34 238 119 rfl).trans ((u30 238 119 rfl).trans ((u25 238 119 rfl).trans ((u20 238 119 rfl).trans (u18 238 119 rfl)))))) ?_
        refine wi_bipush (n := 20) (nx := 214) (r1 := 0) (r2 := 0) (r3 := 0) rfl (by decide) ?_
        refine wr_iremC (nx := 215) (r1 := 0) (r2 := 0) (r3 := 0) rfl (by omega) (by decide) (fun e39 (fe39 : e39 = (h 238 119) % 20) => ?_)
        refine wr_mul (nx := 216) (r1 := 0) (r2 := 0) (r3 := 0) rfl (fun e40 (fe40 : e40 = 4 * e39) => ?_)
        refine wr_add (nx := 217) (r1 := 0) (r2 := 0) (r3 := 0) rfl (fun e41 (fe41 : e41 = 120 + e40) => ?_)
        refine wi_istore (i := 6) (e := e41) (lo2 := [(6, vi e41), (5, vi 0), (4, vi 0), (3, vi 0), (2, vi (h 238 i6)), (0, .ref 236), (1, vi a0)]) (nx := 219) (r1 := 0) (r2 := 0) (r3 := 0) rfl rfl ?_
        refine wi_aload_n (i := 0) (x := 236) (nx := 220) (r1 := 0) (r2 := 0) (r3 := 0) rfl rfl ?_
        refine wr_gr (k0 := 236) (x := 238) (nx := 223) (r1 := 11) (r2 := 13) (r3 := 0) rfl rfl (by decide) rfl ⟨rfl, rfl⟩ rfl ?_
        refine wi_iload (i := 6) (e := e41) (nx := 225) (r1 := 0) (r2 := 0) (r3 := 0) rfl rfl ?_
        refine wi_iload_n (i := 1) (e := a0) (nx := 226) (r1 := 0) (r2 := 0) (r3 := 0) rfl rfl ?_
        obtain ⟨i42, ei42⟩ : ∃ q : Nat, e41 = (q : Int) := ⟨(e41).toNat, by omega⟩
        refine wr_is (k0 := 238) (a := e41) (f := i42) (x := a0) (bl := -2147483648) (bh := 2147483647) (nx := 227) (r1 := 0) (r2 := 0) (r3 := 0) rfl (by decide) rfl (by omega) (by omega) (by decide) g37 (gi_rg 120 77 (fun _ => rfl) (by decide +kernel) (by omega)) (by omega) (fun h43 g43 w43 u43 => ?_)
        have F44 := F38.then rfl (FR.idx (p := 120) (q := 196) u43 (by omega))
        refine wi_aload_n (i := 0) (x := 236) (nx := 228) (r1 := 0) (r2 := 0) (r3 := 0) rfl rfl ?_
        refine wr_gr (k0 := 236) (x := 238) (nx := 231) (r1 := 11) (r2 := 13) (r3 := 0) rfl rfl (by decide) rfl ⟨rfl, rfl⟩ rfl ?_
        refine wi_iload (i := 6) (e := e41) (nx := 233) (r1 := 0) (r2 := 0) (r3 := 0) rfl rfl ?_
        refine wi_iconst (n := 1) (nx := 234) (r1 := 0) (r2 := 0) (r3 := 0) rfl ?_
        refine wr_add (nx := 235) (r1 := 0) (r2 := 0) (r3 := 0) rfl (fun e45 (fe45 : e45 = e41 + 1) => ?_)
        refine wi_iload_n (i := 2) (e := h 238 i6) (nx := 236) (r1 := 0) (r2 := 0) (r3 := 0) rfl rfl ?_
        obtain ⟨i46, ei46⟩ : ∃ q : Nat, e45 = (q : Int) := ⟨(e45).toNat, by omega⟩
        refine wr_is (k0 := 238) (a := e45) (f := i46) (x := h 238 i6) (bl := -2147483648) (bh := 2147483647) (nx := 237) (r1 := 0) (r2 := 0) (r3 := 0) rfl (by decide) rfl (by omega) (by omega) (by decide) g43 (gi_rg 121 77 (fun _ => rfl) (by decide +kernel) (by omega)) (by omega) (fun h47 g47 w47 u47 => ?_)
        have F48 := F44.then rfl (FR.idx (p := 121) (q := 197) u47 (by omega))
        refine wi_aload_n (i := 0) (x := 236) (nx := 238) (r1 := 0) (r2 := 0) (r3 := 0) rfl rfl ?_
        refine wr_gr (k0 := 236) (x := 238) (nx := 241) (r1 := 11) (r2 := 13) (r3 := 0) rfl rfl (by decide) rfl ⟨rfl, rfl⟩ rfl ?_
        refine wi_iload (i := 6) (e := e41) (nx := 243) (r1 := 0) (r2 := 0) (r3 := 0) rfl rfl ?_
        refine wi_iconst (n := 2) (nx := 244) (r1 := 0) (r2 := 0) (r3 := 0) rfl ?_
        refine wr_add (nx := 245) (r1 := 0) (r2 := 0) (r3 := 0) rfl (fun e49 (fe49 : e49 = e41 + 2) => ?_)
        refine wi_iload (i := 5) (e := 0) (nx := 247) (r1 := 0) (r2 := 0) (r3 := 0) rfl rfl ?_
        obtain ⟨i50, ei50⟩ : ∃ q : Nat, e49 = (q : Int) := ⟨(e49).toNat, by omega⟩
        refine wr_is (k0 := 238) (a := e49) (f := i50) (x := 0) (bl := -2147483648) (bh := 2147483647) (nx := 248) (r1 := 0) (r2 := 0) (r3 := 0) rfl (by decide) rfl (by omega) (by omega) (by decide) g47 (gi_rg 122 77 (fun _ => rfl) (by decide +kernel) (by omega)) (by omega) (fun h51 g51 w51 u51 => ?_)
        have F52 := F48.then rfl (FR.idx (p := 122) (q := 198) u51 (by omega))
        refine wi_aload_n (i := 0) (x := 236) (nx := 249) (r1 := 0) (r2 := 0) (r3 := 0) rfl rfl ?_
        refine wr_gr (k0 := 236) (x := 238) (nx := 252) (r1 := 11) (r2 := 13) (r3 := 0) rfl rfl (by decide) rfl ⟨rfl, rfl⟩ rfl ?_
        refine wi_iload (i := 6) (e := e41) (nx := 254) (r1 := 0) (r2 := 0) (r3 := 0) rfl rfl ?_
        refine wi_iconst (n := 3) (nx := 255) (r1 := 0) (r2 := 0) (r3 := 0) rfl ?_
        refine wr_add (nx := 256) (r1 := 0) (r2 := 0) (r3 := 0) rfl (fun e53 (fe53 : e53 = e41 + 3) => ?_)
        refine wi_iload_n (i := 3) (e := 0) (nx := 257) (r1 := 0) (r2 := 0) (r3 := 0) rfl rfl ?_
        refine wi_S (rest := [vi e53, .ref 238]) (as := [vi 0]) (nx := 260) (r1 := 207) (r2 := 17) (r3 := 0) rfl rfl rfl (of_decide_eq_true rfl) rfl rfl (of_decide_eq_true rfl) (of_decide_eq_true rfl) ?_
        refine wi_iload_n (i := 0) (e := 0) (nx := 1) (r1 := 0) (r2 := 0) (r3 := 0) rfl rfl ?_
        refine wi_if (cd := .eq) (nx := 4) (r1 := 8) (r2 := 0) (r3 := 0) rfl (by omega) (fun (q54 : 0 = 0) => ?_) (fun (q54 : ¬ (0 = 0)) => by exfalso; omega)
        refine wi_iconst (n := 0) (nx := 9) (r1 := 0) (r2 := 0) (r3 := 0) rfl ?_
        refine wi_ireturn (nx := 10) (r1 := 0) (r2 := 0) (r3 := 0) rfl rfl ?_
        refine wk_i ?_
        refine wi_iload (i := 4) (e := 0) (nx := 262) (r1 := 0) (r2 := 0) (r3 := 0) rfl rfl ?_
        refine wi_S (rest := [vi 0, vi e53, .ref 238]) (as := [vi 0]) (nx := 265) (r1 := 207) (r2 := 17) (r3 := 0) rfl rfl rfl (of_decide_eq_true rfl) rfl rfl (of_decide_eq_true rfl) (of_decide_eq_true rfl) ?_
        refine wi_iload_n (i := 0) (e := 0) (nx := 1) (r1 := 0) (r2 := 0) (r3 := 0) rfl rfl ?_
        refine wi_if (cd := .eq) (nx := 4) (r1 := 8) (r2 := 0) (r3 := 0) rfl (by omega) (fun (q55 : 0 = 0) => ?_) (fun (q55 : ¬ (0 = 0)) => by exfalso; omega)
        refine wi_iconst (n := 0) (nx := 9) (r1 := 0) (r2 := 0) (r3 := 0) rfl ?_
        refine wi_ireturn (nx := 10) (r1 := 0) (r2 := 0) (r3 := 0) rfl rfl ?_
        refine wk_i ?_
        refine wi_iconst (n := 1) (nx := 266) (r1 := 0) (r2 := 0) (r3 := 0) rfl ?_
        refine wi_ishl (e := 0) (nx := 267) (r1 := 0) (r2 := 0) (r3 := 0) rfl (by decide) ?_
        refine wi_ior (e := 0) (nx := 268) (r1 := 0) (r2 := 0) (r3 := 0) rfl (by decide) ?_
        refine wi_aload_n (i := 0) (x := 236) (nx := 269) (r1 := 0) (r2 := 0) (r3 := 0) rfl rfl ?_
        refine wr_gr (k0 := 236) (x := 238) (nx := 272) (r1 := 11) (r2 := 13) (r3 := 0) rfl rfl (by decide) rfl ⟨rfl, rfl⟩ rfl ?_
        refine wi_bipush (n := 43) (nx := 274) (r1 := 0) (r2 := 0) (r3 := 0) rfl (by decide) ?_
        refine wi_iload_n (i := 1) (e := a0) (nx := 275) (r1 := 0) (r2 := 0) (r3 := 0) rfl rfl ?_
        refine wr_add (nx := 276) (r1 := 0) (r2 := 0) (r3 := 0) rfl (fun e56 (fe56 : e56 = 43 + a0) => ?_)
        obtain ⟨i57, ei57⟩ : ∃ q : Nat, e56 = (q : Int) := ⟨(e56).toNat, by omega⟩
        have b58 := gi_b (lo := 0) (hi := 999) g 238 i57 (gi_rg 43 12 (fun _ => rfl) (by decide +kernel) (by omega))
        refine wr_ia (k0 := 238) (a := e56) (f := i57) (x := h 238 i57) (nx := 277) (r1 := 0) (r2 := 0) (r3 := 0) rfl (by decide) rfl (by omega) (by omega) (by decide) ((u51 238 i57 (fn_i (by omega) fn_0)).trans ((u47 238 i57 (fn_i (by omega) fn_0)).trans ((u43 238 i57 (fn_i (by omega) fn_0)).trans ((u37 238 i57 (fn_i (by omega) fn_0)).trans ((u34 238 i57 (fn_i (by omega) fn_0)).trans ((u30 238 i57 (fn_i (by omega) fn_0)).trans ((u25 238 i57 (fn_i (by omega) fn_0)).trans ((u20 238 i57 (fn_i (by omega) fn_0)).trans (u18 238 i57 (fn_i (by omega) fn_0)))))))))) ?_
        refine wi_if (cd := .le) (nx := 280) (r1 := 284) (r2 := 0) (r3 := 0) rfl (by omega) (fun (q59 : (h 238 i57) ≤ 0) => ?_) (fun (q59 : ¬ ((h 238 i57) ≤ 0)) => ?_)
        ·
          refine wi_iconst (n := 0) (nx := 285) (r1 := 0) (r2 := 0) (r3 := 0) rfl ?_
          refine wi_S (rest := [vi 0, vi e53, .ref 238]) (as := [vi 0]) (nx := 288) (r1 := 207) (r2 := 17) (r3 := 0) rfl rfl rfl (of_decide_eq_true rfl) rfl rfl (of_decide_eq_true rfl) (of_decide_eq_true rfl) ?_
          refine wi_iload_n (i := 0) (e := 0) (nx := 1) (r1 := 0) (r2 := 0) (r3 := 0) rfl rfl ?_
          refine wi_if (cd := .eq) (nx := 4) (r1 := 8) (r2 := 0) (r3 := 0) rfl (by omega) (fun (q60 : 0 = 0) => ?_) (fun (q60 : ¬ (0 = 0)) => by exfalso; omega)
          refine wi_iconst (n := 0) (nx := 9) (r1 := 0) (r2 := 0) (r3 := 0) rfl ?_
          refine wi_ireturn (nx := 10) (r1 := 0) (r2 := 0) (r3 := 0) rfl rfl ?_
          refine wk_i ?_
          refine wi_iconst (n := 2) (nx := 289) (r1 := 0) (r2 := 0) (r3 := 0) rfl ?_
          refine wi_ishl (e := 0) (nx := 290) (r1 := 0) (r2 := 0) (r3 := 0) rfl (by decide) ?_
          refine wi_ior (e := 0) (nx := 291) (r1 := 0) (r2 := 0) (r3 := 0) rfl (by decide) ?_
          obtain ⟨i61, ei61⟩ : ∃ q : Nat, e53 = (q : Int) := ⟨(e53).toNat, by omega⟩
          refine wr_is (k0 := 238) (a := e53) (f := i61) (x := 0) (bl := -2147483648) (bh := 2147483647) (nx := 292) (r1 := 0) (r2 := 0) (r3 := 0) rfl (by decide) rfl (by omega) (by omega) (by decide) g51 (gi_rg 123 77 (fun _ => rfl) (by decide +kernel) (by omega)) (by omega) (fun h62 g62 w62 u62 => ?_)
          have F63 := F52.then rfl (FR.idx (p := 123) (q := 199) u62 (by omega))
          refine wi_aload_n (i := 0) (x := 236) (nx := 293) (r1 := 0) (r2 := 0) (r3 := 0) rfl rfl ?_
          refine wr_gr (k0 := 236) (x := 238) (nx := 296) (r1 := 11) (r2 := 13) (r3 := 0) rfl rfl (by decide) rfl ⟨rfl, rfl⟩ rfl ?_
          refine wi_bipush (n := 119) (nx := 298) (r1 := 0) (r2 := 0) (r3 := 0) rfl (by decide) ?_
          refine wi_dup2 (nx := 299) (r1 := 0) (r2 := 0) (r3 := 0) rfl rfl rfl ?_
          refine wr_ia (k0 := 238) (a := 119) (f := 119) (x := h 238 119) (nx := 300) (r1 := 0) (r2 := 0) (r3 := 0) rfl (by decide) rfl (by omega) (by omega) (by decide) ((u62 238 119 (fn_i (by omega) fn_0)).trans ((u51 238 119 (fn_i (by omega) fn_0)).trans ((u47 238 119 (fn_i (by omega) fn_0)).trans ((u43 238 119 (fn_i (by omega) fn_0)).trans ((u37 238 119 rfl).trans ((u34 238 119 rfl).trans ((u30 238 119 rfl).trans ((u25 238 119 rfl).trans ((u20 238 119 rfl).trans (u18 238 119 rfl)))))))))) ?_
          refine wi_iconst (n := 1) (nx := 301) (r1 := 0) (r2 := 0) (r3 := 0) rfl ?_
          refine wr_add (nx := 302) (r1 := 0) (r2 := 0) (r3 := 0) rfl (fun e64 (fe64 : e64 = (h 238 119) + 1) => ?_)
          refine wr_is (k0 := 238) (a := 119) (f := 119) (x := e64) (bl := 0) (bh := 9999) (nx := 303) (r1 := 0) (r2 := 0) (r3 := 0) rfl (by decide) rfl (by omega) (by omega) (by decide) g62 rfl (by omega) (fun h65 g65 w65 u65 => ?_)
          have F66 := F63.then rfl u65
          refine wi_return (nx := 304) (r1 := 0) (r2 := 0) (r3 := 0) rfl rfl ?_
          have e67 : h65 238 119 = e64 := w65
          have e68 : h65 238 67 = e36 := ((u65 238 67 rfl).trans ((u62 238 67 (fn_i (by omega) fn_0)).trans ((u51 238 67 (fn_i (by omega) fn_0)).trans ((u47 238 67 (fn_i (by omega) fn_0)).trans ((u43 238 67 (fn_i (by omega) fn_0)).trans w37)))))
          have e69 : h65 238 69 = e17 := ((u65 238 69 rfl).trans ((u62 238 69 (fn_i (by omega) fn_0)).trans ((u51 238 69 (fn_i (by omega) fn_0)).trans ((u47 238 69 (fn_i (by omega) fn_0)).trans ((u43 238 69 (fn_i (by omega) fn_0)).trans ((u37 238 69 rfl).trans ((u34 238 69 rfl).trans ((u30 238 69 rfl).trans ((u25 238 69 rfl).trans ((u20 238 69 rfl).trans w18))))))))))
          have e70 : h65 238 5 = h 238 5 := ((u65 238 5 rfl).trans ((u62 238 5 (fn_i (by omega) fn_0)).trans ((u51 238 5 (fn_i (by omega) fn_0)).trans ((u47 238 5 (fn_i (by omega) fn_0)).trans ((u43 238 5 (fn_i (by omega) fn_0)).trans ((u37 238 5 rfl).trans ((u34 238 5 rfl).trans ((u30 238 5 rfl).trans ((u25 238 5 rfl).trans ((u20 238 5 rfl).trans (u18 238 5 rfl)))))))))))
          exact k h65 g65 F66 (show (h65 238 119) ≤ (h65 238 67) by omega) (show (h65 238 69) ≤ (h65 238 5) by omega)
        ·
          refine wi_iconst (n := 1) (nx := 281) (r1 := 0) (r2 := 0) (r3 := 0) rfl ?_
          refine wi_goto (nx := 284) (r1 := 285) (r2 := 0) (r3 := 0) rfl ?_
          refine wi_S (rest := [vi 0, vi e53, .ref 238]) (as := [vi 1]) (nx := 288) (r1 := 207) (r2 := 17) (r3 := 0) rfl rfl rfl (of_decide_eq_true rfl) rfl rfl (of_decide_eq_true rfl) (of_decide_eq_true rfl) ?_
          refine wi_iload_n (i := 0) (e := 1) (nx := 1) (r1 := 0) (r2 := 0) (r3 := 0) rfl rfl ?_
          refine wi_if (cd := .eq) (nx := 4) (r1 := 8) (r2 := 0) (r3 := 0) rfl (by omega) (fun (q60 : 1 = 0) => by exfalso; omega) (fun (q60 : ¬ (1 = 0)) => ?_)
          refine wi_iconst (n := 1) (nx := 5) (r1 := 0) (r2 := 0) (r3 := 0) rfl ?_
          refine wi_goto (nx := 8) (r1 := 9) (r2 := 0) (r3 := 0) rfl ?_
          refine wi_ireturn (nx := 10) (r1 := 0) (r2 := 0) (r3 := 0) rfl rfl ?_
          refine wk_i ?_
          refine wi_iconst (n := 2) (nx := 289) (r1 := 0) (r2 := 0) (r3 := 0) rfl ?_
          refine wi_ishl (e := 4) (nx := 290) (r1 := 0) (r2 := 0) (r3 := 0) rfl (by decide) ?_
          refine wi_ior (e := 4) (nx := 291) (r1 := 0) (r2 := 0) (r3 := 0) rfl (by decide) ?_
          obtain ⟨i61, ei61⟩ : ∃ q : Nat, e53 = (q : Int) := ⟨(e53).toNat, by omega⟩
          refine wr_is (k0 := 238) (a := e53) (f := i61) (x := 4) (bl := -2147483648) (bh := 2147483647) (nx := 292) (r1 := 0) (r2 := 0) (r3 := 0) rfl (by decide) rfl (by omega) (by omega) (by decide) g51 (gi_rg 123 77 (fun _ => rfl) (by decide +kernel) (by omega)) (by omega) (fun h62 g62 w62 u62 => ?_)
          have F63 := F52.then rfl (FR.idx (p := 123) (q := 199) u62 (by omega))
          refine wi_aload_n (i := 0) (x := 236) (nx := 293) (r1 := 0) (r2 := 0) (r3 := 0) rfl rfl ?_
          refine wr_gr (k0 := 236) (x := 238) (nx := 296) (r1 := 11) (r2 := 13) (r3 := 0) rfl rfl (by decide) rfl ⟨rfl, rfl⟩ rfl ?_
          refine wi_bipush (n := 119) (nx := 298) (r1 := 0) (r2 := 0) (r3 := 0) rfl (by decide) ?_
          refine wi_dup2 (nx := 299) (r1 := 0) (r2 := 0) (r3 := 0) rfl rfl rfl ?_
          refine wr_ia (k0 := 238) (a := 119) (f := 119) (x := h 238 119) (nx := 300) (r1 := 0) (r2 := 0) (r3 := 0) rfl (by decide) rfl (by omega) (by omega) (by decide) ((u62 238 119 (fn_i (by omega) fn_0)).trans ((u51 238 119 (fn_i (by omega) fn_0)).trans ((u47 238 119 (fn_i (by omega) fn_0)).trans ((u43 238 119 (fn_i (by omega) fn_0)).trans ((u37 238 119 rfl).trans ((u34 238 119 rfl).trans ((u30 238 119 rfl).trans ((u25 238 119 rfl).trans ((u20 238 119 rfl).trans (u18 238 119 rfl)))))))))) ?_
          refine wi_iconst (n := 1) (nx := 301) (r1 := 0) (r2 := 0) (r3 := 0) rfl ?_
          refine wr_add (nx := 302) (r1 := 0) (r2 := 0) (r3 := 0) rfl (fun e64 (fe64 : e64 = (h 238 119) + 1) => ?_)
          refine wr_is (k0 := 238) (a := 119) (f := 119) (x := e64) (bl := 0) (bh := 9999) (nx := 303) (r1 := 0) (r2 := 0) (r3 := 0) rfl (by decide) rfl (by omega) (by omega) (by decide) g62 rfl (by omega) (fun h65 g65 w65 u65 => ?_)
          have F66 := F63.then rfl u65
          refine wi_return (nx := 304) (r1 := 0) (r2 := 0) (r3 := 0) rfl rfl ?_
          have e67 : h65 238 119 = e64 := w65
          have e68 : h65 238 67 = e36 := ((u65 238 67 rfl).trans ((u62 238 67 (fn_i (by omega) fn_0)).trans ((u51 238 67 (fn_i (by omega) fn_0)).trans ((u47 238 67 (fn_i (by omega) fn_0)).trans ((u43 238 67 (fn_i (by omega) fn_0)).trans w37)))))
          have e69 : h65 238 69 = e17 := ((u65 238 69 rfl).trans ((u62 238 69 (fn_i (by omega) fn_0)).trans ((u51 238 69 (fn_i (by omega) fn_0)).trans ((u47 238 69 (fn_i (by omega) fn_0)).trans ((u43 238 69 (fn_i (by omega) fn_0)).trans ((u37 238 69 rfl).trans ((u34 238 69 rfl).trans ((u30 238 69 rfl).trans ((u25 238 69 rfl).trans ((u20 238 69 rfl).trans w18))))))))))
          have e70 : h65 238 5 = h 238 5 := ((u65 238 5 rfl).trans ((u62 238 5 (fn_i (by omega) fn_0)).trans ((u51 238 5 (fn_i (by omega) fn_0)).trans ((u47 238 5 (fn_i (by omega) fn_0)).trans ((u43 238 5 (fn_i (by omega) fn_0)).trans ((u37 238 5 rfl).trans ((u34 238 5 rfl).trans ((u30 238 5 rfl).trans ((u25 238 5 rfl).trans ((u20 238 5 rfl).trans (u18 238 5 rfl)))))))))))
          exact k h65 g65 F66 (show (h65 238 119) ≤ (h65 238 67) by omega) (show (h65 238 69) ≤ (h65 238 5) by omega)
      ·
        refine wi_iconst (n := 1) (nx := 66) (r1 := 0) (r2 := 0) (r3 := 0) rfl ?_
        refine wi_goto (nx := 69) (r1 := 70) (r2 := 0) (r3 := 0) rfl ?_
        refine wi_istore (i := 4) (e := 1) (lo2 := [(4, vi 1), (3, vi 0), (2, vi (h 238 i6)), (0, .ref 236), (1, vi a0)]) (nx := 72) (r1 := 0) (r2 := 0) (r3 := 0) rfl rfl ?_
        refine wi_iload_n (i := 3) (e := 0) (nx := 73) (r1 := 0) (r2 := 0) (r3 := 0) rfl rfl ?_
        refine wi_if (cd := .eq) (nx := 76) (r1 := 88) (r2 := 0) (r3 := 0) rfl (by omega) (fun (q13 : 0 = 0) => ?_) (fun (q13 : ¬ (0 = 0)) => by exfalso; omega)
        refine wi_iload (i := 4) (e := 1) (nx := 90) (r1 := 0) (r2 := 0) (r3 := 0) rfl rfl ?_
        refine wi_if (cd := .eq) (nx := 93) (r1 := 103) (r2 := 0) (r3 := 0) rfl (by omega) (fun (q14 : 1 = 0) => by exfalso; omega) (fun (q14 : ¬ (1 = 0)) => ?_)
        refine wi_aload_n (i := 0) (x := 236) (nx := 94) (r1 := 0) (r2 := 0) (r3 := 0) rfl rfl ?_
        refine wr_gr (k0 := 236) (x := 238) (nx := 97) (r1 := 11) (r2 := 13) (r3 := 0) rfl rfl (by decide) rfl ⟨rfl, rfl⟩ rfl ?_
        refine wi_bipush (n := 6) (nx := 99) (r1 := 0) (r2 := 0) (r3 := 0) rfl (by decide) ?_
        have b15 := gi_b (lo := 0) (hi := 999) g 238 6 rfl
        refine wr_ia (k0 := 238) (a := 6) (f := 6) (x := h 238 6) (nx := 100) (r1 := 0) (r2 := 0) (r3 := 0) rfl (by decide) rfl (by omega) (by omega) (by decide) rfl ?_
        refine wi_goto (nx := 103) (r1 := 104) (r2 := 0) (r3 := 0) rfl ?_
        refine wi_istore (i := 5) (e := h 238 6) (lo2 := [(5, vi (h 238 6)), (4, vi 1), (3, vi 0), (2, vi (h 238 i6)), (0, .ref 236), (1, vi a0)]) (nx := 106) (r1 := 0) (r2 := 0) (r3 := 0) rfl rfl ?_
        refine wi_aload_n (i := 0) (x := 236) (nx := 107) (r1 := 0) (r2 := 0) (r3 := 0) rfl rfl ?_
        refine wr_gr (k0 := 236) (x := 238) (nx := 110) (r1 := 11) (r2 := 13) (r3 := 0) rfl rfl (by decide) rfl ⟨rfl, rfl⟩ rfl ?_
        refine wi_bipush (n := 69) (nx := 112) (r1 := 0) (r2 := 0) (r3 := 0) rfl (by decide) ?_
        refine wi_aload_n (i := 0) (x := 236) (nx := 113) (r1 := 0) (r2 := 0) (r3 := 0) rfl rfl ?_
        refine wr_gr (k0 := 236) (x := 238) (nx := 116) (r1 := 11) (r2 := 13) (r3 := 0) rfl rfl (by decide) rfl ⟨rfl, rfl⟩ rfl ?_
        refine wi_bipush (n := 68) (nx := 118) (r1 := 0) (r2 := 0) (r3 := 0) rfl (by decide) ?_
        refine wr_ia (k0 := 238) (a := 68) (f := 68) (x := h 238 68) (nx := 119) (r1 := 0) (r2 := 0) (r3 := 0) rfl (by decide) rfl (by omega) (by omega) (by decide) rfl ?_
        refine wi_iload_n (i := 2) (e := h 238 i6) (nx := 120) (r1 := 0) (r2 := 0) (r3 := 0) rfl rfl ?_
        refine wi_icmp (cd := .ne) (nx := 123) (r1 := 140) (r2 := 0) (r3 := 0) rfl (by omega) (by omega) (fun (q16 : (h 238 68) ≠ (h 238 i6)) => by exfalso; omega) (fun (q16 : ¬ ((h 238 68) ≠ (h 238 i6))) => ?_)
        refine wi_iload (i := 4) (e := 1) (nx := 125) (r1 := 0) (r2 := 0) (r3 := 0) rfl rfl ?_
        refine wi_if (cd := .ne) (nx := 128) (r1 := 140) (r2 := 0) (r3 := 0) rfl (by omega) (fun (q17 : 1 ≠ 0) => ?_) (fun (q17 : ¬ (1 ≠ 0)) => by exfalso; omega)
        refine wi_iconst (n := 1) (nx := 141) (r1 := 0) (r2 := 0) (r3 := 0) rfl ?_
        refine wr_is (k0 := 238) (a := 69) (f := 69) (x := 1) (bl := 0) (bh := 9) (nx := 142) (r1 := 0) (r2 := 0) (r3 := 0) rfl (by decide) rfl (by omega) (by omega) (by decide) g rfl (by omega) (fun h18 g18 w18 u18 => ?_)
        have F19 := F0.then rfl u18
        refine wi_aload_n (i := 0) (x := 236) (nx := 143) (r1 := 0) (r2 := 0) (r3 := 0) rfl rfl ?_
        refine wr_gr (k0 := 236) (x := 238) (nx := 146) (r1 := 11) (r2 := 13) (r3 := 0) rfl rfl (by decide) rfl ⟨rfl, rfl⟩ rfl ?_
        refine wi_bipush (n := 68) (nx := 148) (r1 := 0) (r2 := 0) (r3 := 0) rfl (by decide) ?_
        refine wi_iload_n (i := 2) (e := h 238 i6) (nx := 149) (r1 := 0) (r2 := 0) (r3 := 0) rfl rfl ?_
        refine wr_is (k0 := 238) (a := 68) (f := 68) (x := h 238 i6) (bl := -1) (bh := 4) (nx := 150) (r1 := 0) (r2 := 0) (r3 := 0) rfl (by decide) rfl (by omega) (by omega) (by decide) g18 rfl (by omega) (fun h20 g20 w20 u20 => ?_)
        have F21 := F19.then rfl u20
        refine wi_aload_n (i := 0) (x := 236) (nx := 151) (r1 := 0) (r2 := 0) (r3 := 0) rfl rfl ?_
        refine wr_gr (k0 := 236) (x := 238) (nx := 154) (r1 := 11) (r2 := 13) (r3 := 0) rfl rfl (by decide) rfl ⟨rfl, rfl⟩ rfl ?_
        refine wi_bipush (n := 70) (nx := 156) (r1 := 0) (r2 := 0) (r3 := 0) rfl (by decide) ?_
        refine wi_dup2 (nx := 157) (r1 := 0) (r2 := 0) (r3 := 0) rfl rfl rfl ?_
        have b22 := gi_b (lo := -2147483648) (hi := 2147483647) g 238 70 rfl
        refine wr_ia (k0 := 238) (a := 70) (f := 70) (x := h 238 70) (nx := 158) (r1 := 0) (r2 := 0) (r3 := 0) rfl (by decide) rfl (by omega) (by omega) (by decide) ((u20 238 70 rfl).trans (u18 238 70 rfl)) ?_
        refine wi_iload_n (i := 3) (e := 0) (nx := 159) (r1 := 0) (r2 := 0) (r3 := 0) rfl rfl ?_
        refine wi_S (rest := [vi (h 238 70), vi 70, .ref 238]) (as := [vi 0]) (nx := 162) (r1 := 207) (r2 := 17) (r3 := 0) rfl rfl rfl (of_decide_eq_true rfl) rfl rfl (of_decide_eq_true rfl) (of_decide_eq_true rfl) ?_
        refine wi_iload_n (i := 0) (e := 0) (nx := 1) (r1 := 0) (r2 := 0) (r3 := 0) rfl rfl ?_
        refine wi_if (cd := .eq) (nx := 4) (r1 := 8) (r2 := 0) (r3 := 0) rfl (by omega) (fun (q23 : 0 = 0) => ?_) (fun (q23 : ¬ (0 = 0)) => by exfalso; omega)
        refine wi_iconst (n := 0) (nx := 9) (r1 := 0) (r2 := 0) (r3 := 0) rfl ?_
        refine wi_ireturn (nx := 10) (r1 := 0) (r2 := 0) (r3 := 0) rfl rfl ?_
        refine wk_i ?_
        refine wr_add (nx := 163) (r1 := 0) (r2 := 0) (r3 := 0) rfl (fun e24 (fe24 : e24 = (h 238 70) + 0) => ?_)
        refine wr_is (k0 := 238) (a := 70) (f := 70) (x := e24) (bl := -2147483648) (bh := 2147483647) (nx := 164) (r1 := 0) (r2 := 0) (r3 := 0) rfl (by decide) rfl (by omega) (by omega) (by decide) g20 rfl (by omega) (fun h25 g25 w25 u25 => ?_)
        have F26 := F21.then rfl u25
        refine wi_aload_n (i := 0) (x := 236) (nx := 165) (r1 := 0) (r2 := 0) (r3 := 0) rfl rfl ?_
        refine wr_gr (k0 := 236) (x := 238) (nx := 168) (r1 := 11) (r2 := 13) (r3 := 0) rfl rfl (by decide) rfl ⟨rfl, rfl⟩ rfl ?_
        refine wi_bipush (n := 71) (nx := 170) (r1 := 0) (r2 := 0) (r3 := 0) rfl (by decide) ?_
        refine wi_dup2 (nx := 171) (r1 := 0) (r2 := 0) (r3 := 0) rfl rfl rfl ?_
        have b27 := gi_b (lo := -2147483648) (hi := 2147483647) g 238 71 rfl
        refine wr_ia (k0 := 238) (a := 71) (f := 71) (x := h 238 71) (nx := 172) (r1 := 0) (r2 := 0) (r3 := 0) rfl (by decide) rfl (by omega) (by omega) (by decide) ((u25 238 71 rfl).trans ((u20 238 71 rfl).trans (u18 238 71 rfl))) ?_
        refine wi_iload (i := 4) (e := 1) (nx := 174) (r1 := 0) (r2 := 0) (r3 := 0) rfl rfl ?_
        refine wi_S (rest := [vi (h 238 71), vi 71, .ref 238]) (as := [vi 1]) (nx := 177) (r1 := 207) (r2 := 17) (r3 := 0) rfl rfl rfl (of_decide_eq_true rfl) rfl rfl (of_decide_eq_true rfl) (of_decide_eq_true rfl) ?_
        refine wi_iload_n (i := 0) (e := 1) (nx := 1) (r1 := 0) (r2 := 0) (r3 := 0) rfl rfl ?_
        refine wi_if (cd := .eq) (nx := 4) (r1 := 8) (r2 := 0) (r3 := 0) rfl (by omega) (fun (q28 : 1 = 0) => by exfalso; omega) (fun (q28 : ¬ (1 = 0)) => ?_)
        refine wi_iconst (n := 1) (nx := 5) (r1 := 0) (r2 := 0) (r3 := 0) rfl ?_
        refine wi_goto (nx := 8) (r1 := 9) (r2 := 0) (r3 := 0) rfl ?_
        refine wi_ireturn (nx := 10) (r1 := 0) (r2 := 0) (r3 := 0) rfl rfl ?_
        refine wk_i ?_
        refine wr_addW (nx := 178) (r1 := 0) (r2 := 0) (r3 := 0) rfl (fun e29 (fe29 : -2147483648 ≤ e29 ∧ e29 ≤ 2147483647) => ?_)
        refine wr_is (k0 := 238) (a := 71) (f := 71) (x := e29) (bl := -2147483648) (bh := 2147483647) (nx := 179) (r1 := 0) (r2 := 0) (r3 := 0) rfl (by decide) rfl (by omega) (by omega) (by decide) g25 rfl (by omega) (fun h30 g30 w30 u30 => ?_)
        have F31 := F26.then rfl u30
        refine wi_aload_n (i := 0) (x := 236) (nx := 180) (r1 := 0) (r2 := 0) (r3 := 0) rfl rfl ?_
        refine wr_gr (k0 := 236) (x := 238) (nx := 183) (r1 := 11) (r2 := 13) (r3 := 0) rfl rfl (by decide) rfl ⟨rfl, rfl⟩ rfl ?_
        refine wi_bipush (n := 72) (nx := 185) (r1 := 0) (r2 := 0) (r3 := 0) rfl (by decide) ?_
        refine wi_dup2 (nx := 186) (r1 := 0) (r2 := 0) (r3 := 0) rfl rfl rfl ?_
        have b32 := gi_b (lo := -2147483648) (hi := 2147483647) g 238 72 rfl
        refine wr_ia (k0 := 238) (a := 72) (f := 72) (x := h 238 72) (nx := 187) (r1 := 0) (r2 := 0) (r3 := 0) rfl (by decide) rfl (by omega) (by omega) (by decide) ((u30 238 72 rfl).trans ((u25 238 72 rfl).trans ((u20 238 72 rfl).trans (u18 238 72 rfl)))) ?_
        refine wi_iload (i := 5) (e := h 238 6) (nx := 189) (r1 := 0) (r2 := 0) (r3 := 0) rfl rfl ?_
        refine wr_addW (nx := 190) (r1 := 0) (r2 := 0) (r3 := 0) rfl (fun e33 (fe33 : -2147483648 ≤ e33 ∧ e33 ≤ 2147483647) => ?_)
        refine wr_is (k0 := 238) (a := 72) (f := 72) (x := e33) (bl := -2147483648) (bh := 2147483647) (nx := 191) (r1 := 0) (r2 := 0) (r3 := 0) rfl (by decide) rfl (by omega) (by omega) (by decide) g30 rfl (by omega) (fun h34 g34 w34 u34 => ?_)
        have F35 := F31.then rfl u34
        refine wi_aload_n (i := 0) (x := 236) (nx := 192) (r1 := 0) (r2 := 0) (r3 := 0) rfl rfl ?_
        refine wr_gr (k0 := 236) (x := 238) (nx := 195) (r1 := 11) (r2 := 13) (r3 := 0) rfl rfl (by decide) rfl ⟨rfl, rfl⟩ rfl ?_
        refine wi_bipush (n := 67) (nx := 197) (r1 := 0) (r2 := 0) (r3 := 0) rfl (by decide) ?_
        refine wi_dup2 (nx := 198) (r1 := 0) (r2 := 0) (r3 := 0) rfl rfl rfl ?_
        refine wr_ia (k0 := 238) (a := 67) (f := 67) (x := h 238 67) (nx := 199) (r1 := 0) (r2 := 0) (r3 := 0) rfl (by decide) rfl (by omega) (by omega) (by decide) ((u34 238 67 rfl).trans ((u30 238 67 rfl).trans ((u25 238 67 rfl).trans ((u20 238 67 rfl).trans (u18 238 67 rfl))))) ?_
        refine wi_iconst (n := 1) (nx := 200) (r1 := 0) (r2 := 0) (r3 := 0) rfl ?_
        refine wr_add (nx := 201) (r1 := 0) (r2 := 0) (r3 := 0) rfl (fun e36 (fe36 : e36 = (h 238 67) + 1) => ?_)
        refine wr_is (k0 := 238) (a := 67) (f := 67) (x := e36) (bl := 0) (bh := 9999) (nx := 202) (r1 := 0) (r2 := 0) (r3 := 0) rfl (by decide) rfl (by omega) (by omega) (by decide) g34 rfl (by omega) (fun h37 g37 w37 u37 => ?_)
        have F38 := F35.then rfl u37
        refine wi_bipush (n := 120) (nx := 204) (r1 := 0) (r2 := 0) (r3 := 0) rfl (by decide) ?_
        refine wi_iconst (n := 4) (nx := 205) (r1 := 0) (r2 := 0) (r3 := 0) rfl ?_
        refine wi_aload_n (i := 0) (x := 236) (nx := 206) (r1 := 0) (r2 := 0) (r3 := 0) rfl rfl ?_
        refine wr_gr (k0 := 236) (x := 238) (nx := 209) (r1 := 11) (r2 := 13) (r3 := 0) rfl rfl (by decide) rfl ⟨rfl, rfl⟩ rfl ?_
        refine wi_bipush (n := 119) (nx := 211) (r1 := 0) (r2 := 0) (r3 := 0) rfl (by decide) ?_
        refine wr_ia (k0 := 238) (a := 119) (f := 119) (x := h 238 119) (nx := 212) (r1 := 0) (r2 := 0) (r3 := 0) rfl (by decide) rfl (by omega) (by omega) (by decide) ((u37 238 119 rfl).trans ((u34 238 119 rfl).trans ((u30 238 119 rfl).trans ((u25 238 119 rfl).trans ((u20 238 119 rfl).trans (u18 238 119 rfl)))))) ?_
        refine wi_bipush (n := 20) (nx := 214) (r1 := 0) (r2 := 0) (r3 := 0) rfl (by decide) ?_
        refine wr_iremC (nx := 215) (r1 := 0) (r2 := 0) (r3 := 0) rfl (by omega) (by decide) (fun e39 (fe39 : e39 = (h 238 119) % 20) => ?_)
        refine wr_mul (nx := 216) (r1 := 0) (r2 := 0) (r3 := 0) rfl (fun e40 (fe40 : e40 = 4 * e39) => ?_)
        refine wr_add (nx := 217) (r1 := 0) (r2 := 0) (r3 := 0) rfl (fun e41 (fe41 : e41 = 120 + e40) => ?_)
        refine wi_istore (i := 6) (e := e41) (lo2 := [(6, vi e41), (5, vi (h 238 6)), (4, vi 1), (3, vi 0), (2, vi (h 238 i6)), (0, .ref 236), (1, vi a0)]) (nx := 219) (r1 := 0) (r2 := 0) (r3 := 0) rfl rfl ?_
        refine wi_aload_n (i := 0) (x := 236) (nx := 220) (r1 := 0) (r2 := 0) (r3 := 0) rfl rfl ?_
        refine wr_gr (k0 := 236) (x := 238) (nx := 223) (r1 := 11) (r2 := 13) (r3 := 0) rfl rfl (by decide) rfl ⟨rfl, rfl⟩ rfl ?_
        refine wi_iload (i := 6) (e := e41) (nx := 225) (r1 := 0) (r2 := 0) (r3 := 0) rfl rfl ?_
        refine wi_iload_n (i := 1) (e := a0) (nx := 226) (r1 := 0) (r2 := 0) (r3 := 0) rfl rfl ?_
        obtain ⟨i42, ei42⟩ : ∃ q : Nat, e41 = (q : Int) := ⟨(e41).toNat, by omega⟩
        refine wr_is (k0 := 238) (a := e41) (f := i42) (x := a0) (bl := -2147483648) (bh := 2147483647) (nx := 227) (r1 := 0) (r2 := 0) (r3 := 0) rfl (by decide) rfl (by omega) (by omega) (by decide) g37 (gi_rg 120 77 (fun _ => rfl) (by decide +kernel) (by omega)) (by omega) (fun h43 g43 w43 u43 => ?_)
        have F44 := F38.then rfl (FR.idx (p := 120) (q := 196) u43 (by omega))
        refine wi_aload_n (i := 0) (x := 236) (nx := 228) (r1 := 0) (r2 := 0) (r3 := 0) rfl rfl ?_
        refine wr_gr (k0 := 236) (x := 238) (nx := 231) (r1 := 11) (r2 := 13) (r3 := 0) rfl rfl (by decide) rfl ⟨rfl, rfl⟩ rfl ?_
        refine wi_iload (i := 6) (e := e41) (nx := 233) (r1 := 0) (r2 := 0) (r3 := 0) rfl rfl ?_
        refine wi_iconst (n := 1) (nx := 234) (r1 := 0) (r2 := 0) (r3 := 0) rfl ?_
        refine wr_add (nx := 235) (r1 := 0) (r2 := 0) (r3 := 0) rfl (fun e45 (fe45 : e45 = e41 + 1) => ?_)
        refine wi_iload_n (i := 2) (e := h 238 i6) (nx := 236) (r1 := 0) (r2 := 0) (r3 := 0) rfl rfl ?_
        obtain ⟨i46, ei46⟩ : ∃ q : Nat, e45 = (q : Int) := ⟨(e45).toNat, by omega⟩
        refine wr_is (k0 := 238) (a := e45) (f := i46) (x := h 238 i6) (bl := -2147483648) (bh := 2147483647) (nx := 237) (r1 := 0) (r2 := 0) (r3 := 0) rfl (by decide) rfl (by omega) (by omega) (by decide) g43 (gi_rg 121 77 (fun _ => rfl) (by decide +kernel) (by omega)) (by omega) (fun h47 g47 w47 u47 => ?_)
        have F48 := F44.then rfl (FR.idx (p := 121) (q := 197) u47 (by omega))
        refine wi_aload_n (i := 0) (x := 236) (nx := 238) (r1 := 0) (r2 := 0) (r3 := 0) rfl rfl ?_
        refine wr_gr (k0 := 236) (x := 238) (nx := 241) (r1 := 11) (r2 := 13) (r3 := 0) rfl rfl (by decide) rfl ⟨rfl, rfl⟩ rfl ?_
        refine wi_iload (i := 6) (e := e41) (nx := 243) (r1 := 0) (r2 := 0) (r3 := 0) rfl rfl ?_
        refine wi_iconst (n := 2) (nx := 244) (r1 := 0) (r2 := 0) (r3 := 0) rfl ?_
        refine wr_add (nx := 245) (r1 := 0) (r2 := 0) (r3 := 0) rfl (fun e49 (fe49 : e49 = e41 + 2) => ?_)
        refine wi_iload (i := 5) (e := h 238 6) (nx := 247) (r1 := 0) (r2 := 0) (r3 := 0) rfl rfl ?_
        obtain ⟨i50, ei50⟩ : ∃ q : Nat, e49 = (q : Int) := ⟨(e49).toNat, by omega⟩
        refine wr_is (k0 := 238) (a := e49) (f := i50) (x := h 238 6) (bl := -2147483648) (bh := 2147483647) (nx := 248) (r1 := 0) (r2 := 0) (r3 := 0) rfl (by decide) rfl (by omega) (by omega) (by decide) g47 (gi_rg 122 77 (fun _ => rfl) (by decide +kernel) (by omega)) (by omega) (fun h51 g51 w51 u51 => ?_)
        have F52 := F48.then rfl (FR.idx (p := 122) (q := 198) u51 (by omega))
        refine wi_aload_n (i := 0) (x := 236) (nx := 249) (r1 := 0) (r2 := 0) (r3 := 0) rfl rfl ?_
        refine wr_gr (k0 := 236) (x := 238) (nx := 252) (r1 := 11) (r2 := 13) (r3 := 0) rfl rfl (by decide) rfl ⟨rfl, rfl⟩ rfl ?_
        refine wi_iload (i := 6) (e := e41) (nx := 254) (r1 := 0) (r2 := 0) (r3 := 0) rfl rfl ?_
        refine wi_iconst (n := 3) (nx := 255) (r1 := 0) (r2 := 0) (r3 := 0) rfl ?_
        refine wr_add (nx := 256) (r1 := 0) (r2 := 0) (r3 := 0) rfl (fun e53 (fe53 : e53 = e41 + 3) => ?_)
        refine wi_iload_n (i := 3) (e := 0) (nx := 257) (r1 := 0) (r2 := 0) (r3 := 0) rfl rfl ?_
        refine wi_S (rest := [vi e53, .ref 238]) (as := [vi 0]) (nx := 260) (r1 := 207) (r2 := 17) (r3 := 0) rfl rfl rfl (of_decide_eq_true rfl) rfl rfl (of_decide_eq_true rfl) (of_decide_eq_true rfl) ?_
        refine wi_iload_n (i := 0) (e := 0) (nx := 1) (r1 := 0) (r2 := 0) (r3 := 0) rfl rfl ?_
        refine wi_if (cd := .eq) (nx := 4) (r1 := 8) (r2 := 0) (r3 := 0) rfl (by omega) (fun (q54 : 0 = 0) => ?_) (fun (q54 : ¬ (0 = 0)) => by exfalso; omega)
        refine wi_iconst (n := 0) (nx := 9) (r1 := 0) (r2 := 0) (r3 := 0) rfl ?_
        refine wi_ireturn (nx := 10) (r1 := 0) (r2 := 0) (r3 := 0) rfl rfl ?_
        refine wk_i ?_
        refine wi_iload (i := 4) (e := 1) (nx := 262) (r1 := 0) (r2 := 0) (r3 := 0) rfl rfl ?_
        refine wi_S (rest := [vi 0, vi e53, .ref 238]) (as := [vi 1]) (nx := 265) (r1 := 207) (r2 := 17) (r3 := 0) rfl rfl rfl (of_decide_eq_true rfl) rfl rfl (of_decide_eq_true rfl) (of_decide_eq_true rfl) ?_
        refine wi_iload_n (i := 0) (e := 1) (nx := 1) (r1 := 0) (r2 := 0) (r3 := 0) rfl rfl ?_
        refine wi_if (cd := .eq) (nx := 4) (r1 := 8) (r2 := 0) (r3 := 0) rfl (by omega) (fun (q55 : 1 = 0) => by exfalso; omega) (fun (q55 : ¬ (1 = 0)) => ?_)
        refine wi_iconst (n := 1) (nx := 5) (r1 := 0) (r2 := 0) (r3 := 0) rfl ?_
        refine wi_goto (nx := 8) (r1 := 9) (r2 := 0) (r3 := 0) rfl ?_
        refine wi_ireturn (nx := 10) (r1 := 0) (r2 := 0) (r3 := 0) rfl rfl ?_
        refine wk_i ?_
        refine wi_iconst (n := 1) (nx := 266) (r1 := 0) (r2 := 0) (r3 := 0) rfl ?_
        refine wi_ishl (e := 2) (nx := 267) (r1 := 0) (r2 := 0) (r3 := 0) rfl (by decide) ?_
        refine wi_ior (e := 2) (nx := 268) (r1 := 0) (r2 := 0) (r3 := 0) rfl (by decide) ?_
        refine wi_aload_n (i := 0) (x := 236) (nx := 269) (r1 := 0) (r2 := 0) (r3 := 0) rfl rfl ?_
        refine wr_gr (k0 := 236) (x := 238) (nx := 272) (r1 := 11) (r2 := 13) (r3 := 0) rfl rfl (by decide) rfl ⟨rfl, rfl⟩ rfl ?_
        refine wi_bipush (n := 43) (nx := 274) (r1 := 0) (r2 := 0) (r3 := 0) rfl (by decide) ?_
        refine wi_iload_n (i := 1) (e := a0) (nx := 275) (r1 := 0) (r2 := 0) (r3 := 0) rfl rfl ?_
        refine wr_add (nx := 276) (r1 := 0) (r2 := 0) (r3 := 0) rfl (fun e56 (fe56 : e56 = 43 + a0) => ?_)
        obtain ⟨i57, ei57⟩ : ∃ q : Nat, e56 = (q : Int) := ⟨(e56).toNat, by omega⟩
        have b58 := gi_b (lo := 0) (hi := 999) g 238 i57 (gi_rg 43 12 (fun _ => rfl) (by decide +kernel) (by omega))
        refine wr_ia (k0 := 238) (a := e56) (f := i57) (x := h 238 i57) (nx := 277) (r1 := 0) (r2 := 0) (r3 := 0) rfl (by decide) rfl (by omega) (by omega) (by decide) ((u51 238 i57 (fn_i (by omega) fn_0)).trans ((u47 238 i57 (fn_i (by omega) fn_0)).trans ((u43 238 i57 (fn_i (by omega) fn_0)).trans ((u37 238 i57 (fn_i (by omega) fn_0)).trans ((u34 238 i57 (fn_i (by omega) fn_0)).trans ((u30 238 i57 (fn_i (by omega) fn_0)).trans ((u25 238 i57 (fn_i (by omega) fn_0)).trans ((u20 238 i57 (fn_i (by omega) fn_0)).trans (u18 238 i57 (fn_i (by omega) fn_0)))))))))) ?_
        refine wi_if (cd := .le) (nx := 280) (r1 := 284) (r2 := 0) (r3 := 0) rfl (by omega) (fun (q59 : (h 238 i57) ≤ 0) => ?_) (fun (q59 : ¬ ((h 238 i57) ≤ 0)) => ?_)
        ·
          refine wi_iconst (n := 0) (nx := 285) (r1 := 0) (r2 := 0) (r3 := 0) rfl ?_
          refine wi_S (rest := [vi 2, vi e53, .ref 238]) (as := [vi 0]) (nx := 288) (r1 := 207) (r2 := 17) (r3 := 0) rfl rfl rfl (of_decide_eq_true rfl) rfl rfl (of_decide_eq_true rfl) (of_decide_eq_true rfl) ?_
          refine wi_iload_n (i := 0) (e := 0) (nx := 1) (r1 := 0) (r2 := 0) (r3 := 0) rfl rfl ?_
          refine wi_if (cd := .eq) (nx := 4) (r1 := 8) (r2 := 0) (r3 := 0) rfl (by omega) (fun (q60 : 0 = 0) => ?_) (fun (q60 : ¬ (0 = 0)) => by exfalso; omega)
          refine wi_iconst (n := 0) (nx := 9) (r1 := 0) (r2 := 0) (r3 := 0) rfl ?_
          refine wi_ireturn (nx := 10) (r1 := 0) (r2 := 0) (r3 := 0) rfl rfl ?_
          refine wk_i ?_
          refine wi_iconst (n := 2) (nx := 289) (r1 := 0) (r2 := 0) (r3 := 0) rfl ?_
          refine wi_ishl (e := 0) (nx := 290) (r1 := 0) (r2 := 0) (r3 := 0) rfl (by decide) ?_
          refine wi_ior (e := 2) (nx := 291) (r1 := 0) (r2 := 0) (r3 := 0) rfl (by decide) ?_
          obtain ⟨i61, ei61⟩ : ∃ q : Nat, e53 = (q : Int) := ⟨(e53).toNat, by omega⟩
          refine wr_is (k0 := 238) (a := e53) (f := i61) (x := 2) (bl := -2147483648) (bh := 2147483647) (nx := 292) (r1 := 0) (r2 := 0) (r3 := 0) rfl (by decide) rfl (by omega) (by omega) (by decide) g51 (gi_rg 123 77 (fun _ => rfl) (by decide +kernel) (by omega)) (by omega) (fun h62 g62 w62 u62 => ?_)
          have F63 := F52.then rfl (FR.idx (p := 123) (q := 199) u62 (by omega))
          refine wi_aload_n (i := 0) (x := 236) (nx := 293) (r1 := 0) (r2 := 0) (r3 := 0) rfl rfl ?_
          refine wr_gr (k0 := 236) (x := 238) (nx := 296) (r1 := 11) (r2 := 13) (r3 := 0) rfl rfl (by decide) rfl ⟨rfl, rfl⟩ rfl ?_
          refine wi_bipush (n := 119) (nx := 298) (r1 := 0) (r2 := 0) (r3 := 0) rfl (by decide) ?_
          refine wi_dup2 (nx := 299) (r1 := 0) (r2 := 0) (r3 := 0) rfl rfl rfl ?_
          refine wr_ia (k0 := 238) (a := 119) (f := 119) (x := h 238 119) (nx := 300) (r1 := 0) (r2 := 0) (r3 := 0) rfl (by decide) rfl (by omega) (by omega) (by decide) ((u62 238 119 (fn_i (by omega) fn_0)).trans ((u51 238 119 (fn_i (by omega) fn_0)).trans ((u47 238 119 (fn_i (by omega) fn_0)).trans ((u43 238 119 (fn_i (by omega) fn_0)).trans ((u37 238 119 rfl).trans ((u34 238 119 rfl).trans ((u30 238 119 rfl).trans ((u25 238 119 rfl).trans ((u20 238 119 rfl).trans (u18 238 119 rfl)))))))))) ?_
          refine wi_iconst (n := 1) (nx := 301) (r1 := 0) (r2 := 0) (r3 := 0) rfl ?_
          refine wr_add (nx := 302) (r1 := 0) (r2 := 0) (r3 := 0) rfl (fun e64 (fe64 : e64 = (h 238 119) + 1) => ?_)
          refine wr_is (k0 := 238) (a := 119) (f := 119) (x := e64) (bl := 0) (bh := 9999) (nx := 303) (r1 := 0) (r2 := 0) (r3 := 0) rfl (by decide) rfl (by omega) (by omega) (by decide) g62 rfl (by omega) (fun h65 g65 w65 u65 => ?_)
          have F66 := F63.then rfl u65
          refine wi_return (nx := 304) (r1 := 0) (r2 := 0) (r3 := 0) rfl rfl ?_
          have e67 : h65 238 119 = e64 := w65
          have e68 : h65 238 67 = e36 := ((u65 238 67 rfl).trans ((u62 238 67 (fn_i (by omega) fn_0)).trans ((u51 238 67 (fn_i (by omega) fn_0)).trans ((u47 238 67 (fn_i (by omega) fn_0)).trans ((u43 238 67 (fn_i (by omega) fn_0)).trans w37)))))
          have e69 : h65 238 69 = 1 := ((u65 238 69 rfl).trans ((u62 238 69 (fn_i (by omega) fn_0)).trans ((u51 238 69 (fn_i (by omega) fn_0)).trans ((u47 238 69 (fn_i (by omega) fn_0)).trans ((u43 238 69 (fn_i (by omega) fn_0)).trans ((u37 238 69 rfl).trans ((u34 238 69 rfl).trans ((u30 238 69 rfl).trans ((u25 238 69 rfl).trans ((u20 238 69 rfl).trans w18))))))))))
          have e70 : h65 238 5 = h 238 5 := ((u65 238 5 rfl).trans ((u62 238 5 (fn_i (by omega) fn_0)).trans ((u51 238 5 (fn_i (by omega) fn_0)).trans ((u47 238 5 (fn_i (by omega) fn_0)).trans ((u43 238 5 (fn_i (by omega) fn_0)).trans ((u37 238 5 rfl).trans ((u34 238 5 rfl).trans ((u30 238 5 rfl).trans ((u25 238 5 rfl).trans ((u20 238 5 rfl).trans (u18 238 5 rfl)))))))))))
          exact k h65 g65 F66 (show (h65 238 119) ≤ (h65 238 67) by omega) (show (h65 238 69) ≤ (h65 238 5) by omega)
        ·
          refine wi_iconst (n := 1) (nx := 281) (r1 := 0) (r2 := 0) (r3 := 0) rfl ?_
          refine wi_goto (nx := 284) (r1 := 285) (r2 := 0) (r3 := 0) rfl ?_
          refine wi_S (rest := [vi 2, vi e53, .ref 238]) (as := [vi 1]) (nx := 288) (r1 := 207) (r2 := 17) (r3 := 0) rfl rfl rfl (of_decide_eq_true rfl) rfl rfl (of_decide_eq_true rfl) (of_decide_eq_true rfl) ?_
          refine wi_iload_n (i := 0) (e := 1) (nx := 1) (r1 := 0) (r2 := 0) (r3 := 0) rfl rfl ?_
          refine wi_if (cd := .eq) (nx := 4) (r1 := 8) (r2 := 0) (r3 := 0) rfl (by omega) (fun (q60 : 1 = 0) => by exfalso; omega) (fun (q60 : ¬ (1 = 0)) => ?_)
          refine wi_iconst (n := 1) (nx := 5) (r1 := 0) (r2 := 0) (r3 := 0) rfl ?_
          refine wi_goto (nx := 8) (r1 := 9) (r2 := 0) (r3 := 0) rfl ?_
          refine wi_ireturn (nx := 10) (r1 := 0) (r2 := 0) (r3 := 0) rfl rfl ?_
          refine wk_i ?_
          refine wi_iconst (n := 2) (nx := 289) (r1 := 0) (r2 := 0) (r3 := 0) rfl ?_
          refine wi_ishl (e := 4) (nx := 290) (r1 := 0) (r2 := 0) (r3 := 0) rfl (by decide) ?_
          refine wi_ior (e := 6) (nx := 291) (r1 := 0) (r2 := 0) (r3 := 0) rfl (by decide) ?_
          obtain ⟨i61, ei61⟩ : ∃ q : Nat, e53 = (q : Int) := ⟨(e53).toNat, by omega⟩
          refine wr_is (k0 := 238) (a := e53) (f := i61) (x := 6) (bl := -2147483648) (bh := 2147483647) (nx := 292) (r1 := 0) (r2 := 0) (r3 := 0) rfl (by decide) rfl (by omega) (by omega) (by decide) g51 (gi_rg 123 77 (fun _ => rfl) (by decide +kernel) (by omega)) (by omega) (fun h62 g62 w62 u62 => ?_)
          have F63 := F52.then rfl (FR.idx (p := 123) (q := 199) u62 (by omega))
          refine wi_aload_n (i := 0) (x := 236) (nx := 293) (r1 := 0) (r2 := 0) (r3 := 0) rfl rfl ?_
          refine wr_gr (k0 := 236) (x := 238) (nx := 296) (r1 := 11) (r2 := 13) (r3 := 0) rfl rfl (by decide) rfl ⟨rfl, rfl⟩ rfl ?_
          refine wi_bipush (n := 119) (nx := 298) (r1 := 0) (r2 := 0) (r3 := 0) rfl (by decide) ?_
          refine wi_dup2 (nx := 299) (r1 := 0) (r2 := 0) (r3 := 0) rfl rfl rfl ?_
          refine wr_ia (k0 := 238) (a := 119) (f := 119) (x := h 238 119) (nx := 300) (r1 := 0) (r2 := 0) (r3 := 0) rfl (by decide) rfl (by omega) (by omega) (by decide) ((u62 238 119 (fn_i (by omega) fn_0)).trans ((u51 238 119 (fn_i (by omega) fn_0)).trans ((u47 238 119 (fn_i (by omega) fn_0)).trans ((u43 238 119 (fn_i (by omega) fn_0)).trans ((u37 238 119 rfl).trans ((u34 238 119 rfl).trans ((u30 238 119 rfl).trans ((u25 238 119 rfl).trans ((u20 238 119 rfl).trans (u18 238 119 rfl)))))))))) ?_
          refine wi_iconst (n := 1) (nx := 301) (r1 := 0) (r2 := 0) (r3 := 0) rfl ?_
          refine wr_add (nx := 302) (r1 := 0) (r2 := 0) (r3 := 0) rfl (fun e64 (fe64 : e64 = (h 238 119) + 1) => ?_)
          refine wr_is (k0 := 238) (a := 119) (f := 119) (x := e64) (bl := 0) (bh := 9999) (nx := 303) (r1 := 0) (r2 := 0) (r3 := 0) rfl (by decide) rfl (by omega) (by omega) (by decide) g62 rfl (by omega) (fun h65 g65 w65 u65 => ?_)
          have F66 := F63.then rfl u65
          refine wi_return (nx := 304) (r1 := 0) (r2 := 0) (r3 := 0) rfl rfl ?_
          have e67 : h65 238 119 = e64 := w65
          have e68 : h65 238 67 = e36 := ((u65 238 67 rfl).trans ((u62 238 67 (fn_i (by omega) fn_0)).trans ((u51 238 67 (fn_i (by omega) fn_0)).trans ((u47 238 67 (fn_i (by omega) fn_0)).trans ((u43 238 67 (fn_i (by omega) fn_0)).trans w37)))))
          have e69 : h65 238 69 = 1 := ((u65 238 69 rfl).trans ((u62 238 69 (fn_i (by omega) fn_0)).trans ((u51 238 69 (fn_i (by omega) fn_0)).trans ((u47 238 69 (fn_i (by omega) fn_0)).trans ((u43 238 69 (fn_i (by omega) fn_0)).trans ((u37 238 69 rfl).trans ((u34 238 69 rfl).trans ((u30 238 69 rfl).trans ((u25 238 69 rfl).trans ((u20 238 69 rfl).trans w18))))))))))
          have e70 : h65 238 5 = h 238 5 := ((u65 238 5 rfl).trans ((u62 238 5 (fn_i (by omega) fn_0)).trans ((u51 238 5 (fn_i (by omega) fn_0)).trans ((u47 238 5 (fn_i (by omega) fn_0)).trans ((u43 238 5 (fn_i (by omega) fn_0)).trans ((u37 238 5 rfl).trans ((u34 238 5 rfl).trans ((u30 238 5 rfl).trans ((u25 238 5 rfl).trans ((u20 238 5 rfl).trans (u18 238 5 rfl)))))))))))
          exact k h65 g65 F66 (show (h65 238 119) ≤ (h65 238 67) by omega) (show (h65 238 69) ≤ (h65 238 5) by omega)
    ·
      refine wi_iconst (n := 1) (nx := 33) (r1 := 0) (r2 := 0) (r3 := 0) rfl ?_
      refine wi_goto (nx := 36) (r1 := 37) (r2 := 0) (r3 := 0) rfl ?_
      refine wi_istore_n (i := 3) (e := 1) (lo2 := [(3, vi 1), (2, vi (h 238 i6)), (0, .ref 236), (1, vi a0)]) (nx := 38) (r1 := 0) (r2 := 0) (r3 := 0) rfl rfl ?_
      refine wi_aload_n (i := 0) (x := 236) (nx := 39) (r1 := 0) (r2 := 0) (r3 := 0) rfl rfl ?_
      refine wr_gr (k0 := 236) (x := 238) (nx := 42) (r1 := 11) (r2 := 13) (r3 := 0) rfl rfl (by decide) rfl ⟨rfl, rfl⟩ rfl ?_
      refine wi_bipush (n := 68) (nx := 44) (r1 := 0) (r2 := 0) (r3 := 0) rfl (by decide) ?_
      refine wr_ia (k0 := 238) (a := 68) (f := 68) (x := h 238 68) (nx := 45) (r1 := 0) (r2 := 0) (r3 := 0) rfl (by decide) rfl (by omega) (by omega) (by decide) rfl ?_
      refine wi_iload_n (i := 2) (e := h 238 i6) (nx := 46) (r1 := 0) (r2 := 0) (r3 := 0) rfl rfl ?_
      refine wi_icmp (cd := .ne) (nx := 49) (r1 := 69) (r2 := 0) (r3 := 0) rfl (by omega) (by omega) (fun (q11 : (h 238 68) ≠ (h 238 i6)) => ?_) (fun (q11 : ¬ ((h 238 68) ≠ (h 238 i6))) => by exfalso; omega)
      refine wi_iconst (n := 0) (nx := 70) (r1 := 0) (r2 := 0) (r3 := 0) rfl ?_
      refine wi_istore (i := 4) (e := 0) (lo2 := [(4, vi 0), (3, vi 1), (2, vi (h 238 i6)), (0, .ref 236), (1, vi a0)]) (nx := 72) (r1 := 0) (r2 := 0) (r3 := 0) rfl rfl ?_
      refine wi_iload_n (i := 3) (e := 1) (nx := 73) (r1 := 0) (r2 := 0) (r3 := 0) rfl rfl ?_
      refine wi_if (cd := .eq) (nx := 76) (r1 := 88) (r2 := 0) (r3 := 0) rfl (by omega) (fun (q12 : 1 = 0) => by exfalso; omega) (fun (q12 : ¬ (1 = 0)) => ?_)
      refine wi_aload_n (i := 0) (x := 236) (nx := 77) (r1 := 0) (r2 := 0) (r3 := 0) rfl rfl ?_
      refine wr_gr (k0 := 236) (x := 238) (nx := 80) (r1 := 11) (r2 := 13) (r3 := 0) rfl rfl (by decide) rfl ⟨rfl, rfl⟩ rfl ?_
      refine wi_bipush (n := 10) (nx := 82) (r1 := 0) (r2 := 0) (r3 := 0) rfl (by decide) ?_
      refine wi_iload_n (i := 2) (e := h 238 i6) (nx := 83) (r1 := 0) (r2 := 0) (r3 := 0) rfl rfl ?_
      refine wr_add (nx := 84) (r1 := 0) (r2 := 0) (r3 := 0) rfl (fun e13 (fe13 : e13 = 10 + (h 238 i6)) => ?_)
      obtain ⟨i14, ei14⟩ : ∃ q : Nat, e13 = (q : Int) := ⟨(e13).toNat, by omega⟩
      have b15 := gi_b (lo := 0) (hi := 999) g 238 i14 (gi_rg 10 5 (fun _ => rfl) (by decide +kernel) (by omega))
      refine wr_ia (k0 := 238) (a := e13) (f := i14) (x := h 238 i14) (nx := 85) (r1 := 0) (r2 := 0) (r3 := 0) rfl (by decide) rfl (by omega) (by omega) (by decide) rfl ?_
      refine wi_goto (nx := 88) (r1 := 104) (r2 := 0) (r3 := 0) rfl ?_
      refine wi_istore (i := 5) (e := h 238 i14) (lo2 := [(5, vi (h 238 i14)), (4, vi 0), (3, vi 1), (2, vi (h 238 i6)), (0, .ref 236), (1, vi a0)]) (nx := 106) (r1 := 0) (r2 := 0) (r3 := 0) rfl rfl ?_
      refine wi_aload_n (i := 0) (x := 236) (nx := 107) (r1 := 0) (r2 := 0) (r3 := 0) rfl rfl ?_
      refine wr_gr (k0 := 236) (x := 238) (nx := 110) (r1 := 11) (r2 := 13) (r3 := 0) rfl rfl (by decide) rfl ⟨rfl, rfl⟩ rfl ?_
      refine wi_bipush (n := 69) (nx := 112) (r1 := 0) (r2 := 0) (r3 := 0) rfl (by decide) ?_
      refine wi_aload_n (i := 0) (x := 236) (nx := 113) (r1 := 0) (r2 := 0) (r3 := 0) rfl rfl ?_
      refine wr_gr (k0 := 236) (x := 238) (nx := 116) (r1 := 11) (r2 := 13) (r3 := 0) rfl rfl (by decide) rfl ⟨rfl, rfl⟩ rfl ?_
      refine wi_bipush (n := 68) (nx := 118) (r1 := 0) (r2 := 0) (r3 := 0) rfl (by decide) ?_
      refine wr_ia (k0 := 238) (a := 68) (f := 68) (x := h 238 68) (nx := 119) (r1 := 0) (r2 := 0) (r3 := 0) rfl (by decide) rfl (by omega) (by omega) (by decide) rfl ?_
      refine wi_iload_n (i := 2) (e := h 238 i6) (nx := 120) (r1 := 0) (r2 := 0) (r3 := 0) rfl rfl ?_
      refine wi_icmp (cd := .ne) (nx := 123) (r1 := 140) (r2 := 0) (r3 := 0) rfl (by omega) (by omega) (fun (q16 : (h 238 68) ≠ (h 238 i6)) => ?_) (fun (q16 : ¬ ((h 238 68) ≠ (h 238 i6))) => by exfalso; omega)
      refine wi_iconst (n := 1) (nx := 141) (r1 := 0) (r2 := 0) (r3 := 0) rfl ?_
      refine wr_is (k0 := 238) (a := 69) (f := 69) (x := 1) (bl := 0) (bh := 9) (nx := 142) (r1 := 0) (r2 := 0) (r3 := 0) rfl (by decide) rfl (by omega) (by omega) (by decide) g rfl (by omega) (fun h17 g17 w17 u17 => ?_)
      have F18 := F0.then rfl u17
      refine wi_aload_n (i := 0) (x := 236) (nx := 143) (r1 := 0) (r2 := 0) (r3 := 0) rfl rfl ?_
      refine wr_gr (k0 := 236) (x := 238) (nx := 146) (r1 := 11) (r2 := 13) (r3 := 0) rfl rfl (by decide) rfl ⟨rfl, rfl⟩ rfl ?_
      refine wi_bipush (n := 68) (nx := 148) (r1 := 0) (r2 := 0) (r3 := 0) rfl (by decide) ?_
      refine wi_iload_n (i := 2) (e := h 238 i6) (nx := 149) (r1 := 0) (r2 := 0) (r3 := 0) rfl rfl ?_
      refine wr_is (k0 := 238) (a := 68) (f := 68) (x := h 238 i6) (bl := -1) (bh := 4) (nx := 150) (r1 := 0) (r2 := 0) (r3 := 0) rfl (by decide) rfl (by omega) (by omega) (by decide) g17 rfl (by omega) (fun h19 g19 w19 u19 => ?_)
      have F20 := F18.then rfl u19
      refine wi_aload_n (i := 0) (x := 236) (nx := 151) (r1 := 0) (r2 := 0) (r3 := 0) rfl rfl ?_
      refine wr_gr (k0 := 236) (x := 238) (nx := 154) (r1 := 11) (r2 := 13) (r3 := 0) rfl rfl (by decide) rfl ⟨rfl, rfl⟩ rfl ?_
      refine wi_bipush (n := 70) (nx := 156) (r1 := 0) (r2 := 0) (r3 := 0) rfl (by decide) ?_
      refine wi_dup2 (nx := 157) (r1 := 0) (r2 := 0) (r3 := 0) rfl rfl rfl ?_
      have b21 := gi_b (lo := -2147483648) (hi := 2147483647) g 238 70 rfl
      refine wr_ia (k0 := 238) (a := 70) (f := 70) (x := h 238 70) (nx := 158) (r1 := 0) (r2 := 0) (r3 := 0) rfl (by decide) rfl (by omega) (by omega) (by decide) ((u19 238 70 rfl).trans (u17 238 70 rfl)) ?_
      refine wi_iload_n (i := 3) (e := 1) (nx := 159) (r1 := 0) (r2 := 0) (r3 := 0) rfl rfl ?_
      refine wi_S (rest := [vi (h 238 70), vi 70, .ref 238]) (as := [vi 1]) (nx := 162) (r1 := 207) (r2 := 17) (r3 := 0) rfl rfl rfl (of_decide_eq_true rfl) rfl rfl (of_decide_eq_true rfl) (of_decide_eq_true rfl) ?_
      refine wi_iload_n (i := 0) (e := 1) (nx := 1) (r1 := 0) (r2 := 0) (r3 := 0) rfl rfl ?_
      refine wi_if (cd := .eq) (nx := 4) (r1 := 8) (r2 := 0) (r3 := 0) rfl (by omega) (fun (q22 : 1 = 0) => by exfalso; omega) (fun (q22 : ¬ (1 = 0)) => ?_)
      refine wi_iconst (n := 1) (nx := 5) (r1 := 0) (r2 := 0) (r3 := 0) rfl ?_
      refine wi_goto (nx := 8) (r1 := 9) (r2 := 0) (r3 := 0) rfl ?_
      refine wi_ireturn (nx := 10) (r1 := 0) (r2 := 0) (r3 := 0) rfl rfl ?_
      refine wk_i ?_
      refine wr_addW (nx := 163) (r1 := 0) (r2 := 0) (r3 := 0) rfl (fun e23 (fe23 : -2147483648 ≤ e23 ∧ e23 ≤ 2147483647) => ?_)
      refine wr_is (k0 := 238) (a := 70) (f := 70) (x := e23) (bl := -2147483648) (bh := 2147483647) (nx := 164) (r1 := 0) (r2 := 0) (r3 := 0) rfl (by decide) rfl (by omega) (by omega) (by decide) g19 rfl (by omega) (fun h24 g24 w24 u24 => ?_)
      have F25 := F20.then rfl u24
      refine wi_aload_n (i := 0) (x := 236) (nx := 165) (r1 := 0) (r2 := 0) (r3 := 0) rfl rfl ?_
      refine wr_gr (k0 := 236) (x := 238) (nx := 168) (r1 := 11) (r2 := 13) (r3 := 0) rfl rfl (by decide) rfl ⟨rfl, rfl⟩ rfl ?_
      refine wi_bipush (n := 71) (nx := 170) (r1 := 0) (r2 := 0) (r3 := 0) rfl (by decide) ?_
      refine wi_dup2 (nx := 171) (r1 := 0) (r2 := 0) (r3 := 0) rfl rfl rfl ?_
      have b26 := gi_b (lo := -2147483648) (hi := 2147483647) g 238 71 rfl
      refine wr_ia (k0 := 238) (a := 71) (f := 71) (x := h 238 71) (nx := 172) (r1 := 0) (r2 := 0) (r3 := 0) rfl (by decide) rfl (by omega) (by omega) (by decide) ((u24 238 71 rfl).trans ((u19 238 71 rfl).trans (u17 238 71 rfl))) ?_
      refine wi_iload (i := 4) (e := 0) (nx := 174) (r1 := 0) (r2 := 0) (r3 := 0) rfl rfl ?_
      refine wi_S (rest := [vi (h 238 71), vi 71, .ref 238]) (as := [vi 0]) (nx := 177) (r1 := 207) (r2 := 17) (r3 := 0) rfl rfl rfl (of_decide_eq_true rfl) rfl rfl (of_decide_eq_true rfl) (of_decide_eq_true rfl) ?_
      refine wi_iload_n (i := 0) (e := 0) (nx := 1) (r1 := 0) (r2 := 0) (r3 := 0) rfl rfl ?_
      refine wi_if (cd := .eq) (nx := 4) (r1 := 8) (r2 := 0) (r3 := 0) rfl (by omega) (fun (q27 : 0 = 0) => ?_) (fun (q27 : ¬ (0 = 0)) => by exfalso; omega)
      refine wi_iconst (n := 0) (nx := 9) (r1 := 0) (r2 := 0) (r3 := 0) rfl ?_
      refine wi_ireturn (nx := 10) (r1 := 0) (r2 := 0) (r3 := 0) rfl rfl ?_
      refine wk_i ?_
      refine wr_add (nx := 178) (r1 := 0) (r2 := 0) (r3 := 0) rfl (fun e28 (fe28 : e28 = (h 238 71) + 0) => ?_)
      refine wr_is (k0 := 238) (a := 71) (f := 71) (x := e28) (bl := -2147483648) (bh := 2147483647) (nx := 179) (r1 := 0) (r2 := 0) (r3 := 0) rfl (by decide) rfl (by omega) (by omega) (by decide) g24 rfl (by omega) (fun h29 g29 w29 u29 => ?_)
      have F30 := F25.then rfl u29
      refine wi_aload_n (i := 0) (x := 236) (nx := 180) (r1 := 0) (r2 := 0) (r3 := 0) rfl rfl ?_
      refine wr_gr (k0 := 236) (x := 238) (nx := 183) (r1 := 11) (r2 := 13) (r3 := 0) rfl rfl (by decide) rfl ⟨rfl, rfl⟩ rfl ?_
      refine wi_bipush (n := 72) (nx := 185) (r1 := 0) (r2 := 0) (r3 := 0) rfl (by decide) ?_
      refine wi_dup2 (nx := 186) (r1 := 0) (r2 := 0) (r3 := 0) rfl rfl rfl ?_
      have b31 := gi_b (lo := -2147483648) (hi := 2147483647) g 238 72 rfl
      refine wr_ia (k0 := 238) (a := 72) (f := 72) (x := h 238 72) (nx := 187) (r1 := 0) (r2 := 0) (r3 := 0) rfl (by decide) rfl (by omega) (by omega) (by decide) ((u29 238 72 rfl).trans ((u24 238 72 rfl).trans ((u19 238 72 rfl).trans (u17 238 72 rfl)))) ?_
      refine wi_iload (i := 5) (e := h 238 i14) (nx := 189) (r1 := 0) (r2 := 0) (r3 := 0) rfl rfl ?_
      refine wr_addW (nx := 190) (r1 := 0) (r2 := 0) (r3 := 0) rfl (fun e32 (fe32 : -2147483648 ≤ e32 ∧ e32 ≤ 2147483647) => ?_)
      refine wr_is (k0 := 238) (a := 72) (f := 72) (x := e32) (bl := -2147483648) (bh := 2147483647) (nx := 191) (r1 := 0) (r2 := 0) (r3 := 0) rfl (by decide) rfl (by omega) (by omega) (by decide) g29 rfl (by omega) (fun h33 g33 w33 u33 => ?_)
      have F34 := F30.then rfl u33
      refine wi_aload_n (i := 0) (x := 236) (nx := 192) (r1 := 0) (r2 := 0) (r3 := 0) rfl rfl ?_
      refine wr_gr (k0 := 236) (x := 238) (nx := 195) (r1 := 11) (r2 := 13) (r3 := 0) rfl rfl (by decide) rfl ⟨rfl, rfl⟩ rfl ?_
      refine wi_bipush (n := 67) (nx := 197) (r1 := 0) (r2 := 0) (r3 := 0) rfl (by decide) ?_
      refine wi_dup2 (nx := 198) (r1 := 0) (r2 := 0) (r3 := 0) rfl rfl rfl ?_
      refine wr_ia (k0 := 238) (a := 67) (f := 67) (x := h 238 67) (nx := 199) (r1 := 0) (r2 := 0) (r3 := 0) rfl (by decide) rfl (by omega) (by omega) (by decide) ((u33 238 67 rfl).trans ((u29 238 67 rfl).trans ((u24 238 67 rfl).trans ((u19 238 67 rfl).trans (u17 238 67 rfl))))) ?_
      refine wi_iconst (n := 1) (nx := 200) (r1 := 0) (r2 := 0) (r3 := 0) rfl ?_
      refine wr_add (nx := 201) (r1 := 0) (r2 := 0) (r3 := 0) rfl (fun e35 (fe35 : e35 = (h 238 67) + 1) => ?_)
      refine wr_is (k0 := 238) (a := 67) (f := 67) (x := e35) (bl := 0) (bh := 9999) (nx := 202) (r1 := 0) (r2 := 0) (r3 := 0) rfl (by decide) rfl (by omega) (by omega) (by decide) g33 rfl (by omega) (fun h36 g36 w36 u36 => ?_)
      have F37 := F34.then rfl u36
      refine wi_bipush (n := 120) (nx := 204) (r1 := 0) (r2 := 0) (r3 := 0) rfl (by decide) ?_
      refine wi_iconst (n := 4) (nx := 205) (r1 := 0) (r2 := 0) (r3 := 0) rfl ?_
      refine wi_aload_n (i := 0) (x := 236) (nx := 206) (r1 := 0) (r2 := 0) (r3 := 0) rfl rfl ?_
      refine wr_gr (k0 := 236) (x := 238) (nx := 209) (r1 := 11) (r2 := 13) (r3 := 0) rfl rfl (by decide) rfl ⟨rfl, rfl⟩ rfl ?_
      refine wi_bipush (n := 119) (nx := 211) (r1 := 0) (r2 := 0) (r3 := 0) rfl (by decide) ?_
      refine wr_ia (k0 := 238) (a := 119) (f := 119) (x := h 238 119) (nx := 212) (r1 := 0) (r2 := 0) (r3 := 0) rfl (by decide) rfl (by omega) (by omega) (by decide) ((u36 238 119 rfl).trans ((u33 238 119 rfl).trans ((u29 238 119 rfl).trans ((u24 238 119 rfl).trans ((u19 238 119 rfl).trans (u17 238 119 rfl)))))) ?_
      refine wi_bipush (n := 20) (nx := 214) (r1 := 0) (r2 := 0) (r3 := 0) rfl (by decide) ?_
      refine wr_iremC (nx := 215) (r1 := 0) (r2 := 0) (r3 := 0) rfl (by omega) (by decide) (fun e38 (fe38 : e38 = (h 238 119) % 20) => ?_)
      refine wr_mul (nx := 216) (r1 := 0) (r2 := 0) (r3 := 0) rfl (fun e39 (fe39 : e39 = 4 * e38) => ?_)
      refine wr_add (nx := 217) (r1 := 0) (r2 := 0) (r3 := 0) rfl (fun e40 (fe40 : e40 = 120 + e39) => ?_)
      refine wi_istore (i := 6) (e := e40) (lo2 := [(6, vi e40), (5, vi (h 238 i14)), (4, vi 0), (3, vi 1), (2, vi (h 238 i6)), (0, .ref 236), (1, vi a0)]) (nx := 219) (r1 := 0) (r2 := 0) (r3 := 0) rfl rfl ?_
      refine wi_aload_n (i := 0) (x := 236) (nx := 220) (r1 := 0) (r2 := 0) (r3 := 0) rfl rfl ?_
      refine wr_gr (k0 := 236) (x := 238) (nx := 223) (r1 := 11) (r2 := 13) (r3 := 0) rfl rfl (by decide) rfl ⟨rfl, rfl⟩ rfl ?_
      refine wi_iload (i := 6) (e := e40) (nx := 225) (r1 := 0) (r2 := 0) (r3 := 0) rfl rfl ?_
      refine wi_iload_n (i := 1) (e := a0) (nx := 226) (r1 := 0) (r2 := 0) (r3 := 0) rfl rfl ?_
      obtain ⟨i41, ei41⟩ : ∃ q : Nat, e40 = (q : Int) := ⟨(e40).toNat, by omega⟩
      refine wr_is (k0 := 238) (a := e40) (f := i41) (x := a0) (bl := -2147483648) (bh := 2147483647) (nx := 227) (r1 := 0) (r2 := 0) (r3 := 0) rfl (by decide) rfl (by omega) (by omega) (by decide) g36 (gi_rg 120 77 (fun _ => rfl) (by decide +kernel) (by omega)) (by omega) (fun h42 g42 w42 u42 => ?_)
      have F43 := F37.then rfl (FR.idx (p := 120) (q := 196) u42 (by omega))
      refine wi_aload_n (i := 0) (x := 236) (nx := 228) (r1 := 0) (r2 := 0) (r3 := 0) rfl rfl ?_
      refine wr_gr (k0 := 236) (x := 238) (nx := 231) (r1 := 11) (r2 := 13) (r3 := 0) rfl rfl (by decide) rfl ⟨rfl, rfl⟩ rfl ?_
      refine wi_iload (i := 6) (e := e40) (nx := 233) (r1 := 0) (r2 := 0) (r3 := 0) rfl rfl ?_
      refine wi_iconst (n := 1) (nx := 234) (r1 := 0) (r2 := 0) (r3 := 0) rfl ?_
      refine wr_add (nx := 235) (r1 := 0) (r2 := 0) (r3 := 0) rfl (fun e44 (fe44 : e44 = e40 + 1) => ?_)
      refine wi_iload_n (i := 2) (e := h 238 i6) (nx := 236) (r1 := 0) (r2 := 0) (r3 := 0) rfl rfl ?_
      obtain ⟨i45, ei45⟩ : ∃ q : Nat, e44 = (q : Int) := ⟨(e44).toNat, by omega⟩
      refine wr_is (k0 := 238) (a := e44) (f := i45) (x := h 238 i6) (bl := -2147483648) (bh := 2147483647) (nx := 237) (r1 := 0) (r2 := 0) (r3 := 0) rfl (by decide) rfl (by omega) (by omega) (by decide) g42 (gi_rg 121 77 (fun _ => rfl) (by decide +kernel) (by omega)) (by omega) (fun h46 g46 w46 u46 => ?_)
      have F47 := F43.then rfl (FR.idx (p := 121) (q := 197) u46 (by omega))
      refine wi_aload_n (i := 0) (x := 236) (nx := 238) (r1 := 0) (r2 := 0) (r3 := 0) rfl rfl ?_
      refine wr_gr (k0 := 236) (x := 238) (nx := 241) (r1 := 11) (r2 := 13) (r3 := 0) rfl rfl (by decide) rfl ⟨rfl, rfl⟩ rfl ?_
      refine wi_iload (i := 6) (e := e40) (nx := 243) (r1 := 0) (r2 := 0) (r3 := 0) rfl rfl ?_
      refine wi_iconst (n := 2) (nx := 244) (r1 := 0) (r2 := 0) (r3 := 0) rfl ?_
      refine wr_add (nx := 245) (r1 := 0) (r2 := 0) (r3 := 0) rfl (fun e48 (fe48 : e48 = e40 + 2) => ?_)
      refine wi_iload (i := 5) (e := h 238 i14) (nx := 247) (r1 := 0) (r2 := 0) (r3 := 0) rfl rfl ?_
      obtain ⟨i49, ei49⟩ : ∃ q : Nat, e48 = (q : Int) := ⟨(e48).toNat, by omega⟩
      refine wr_is (k0 := 238) (a := e48) (f := i49) (x := h 238 i14) (bl := -2147483648) (bh := 2147483647) (nx := 248) (r1 := 0) (r2 := 0) (r3 := 0) rfl (by decide) rfl (by omega) (by omega) (by decide) g46 (gi_rg 122 77 (fun _ => rfl) (by decide +kernel) (by omega)) (by omega) (fun h50 g50 w50 u50 => ?_)
      have F51 := F47.then rfl (FR.idx (p := 122) (q := 198) u50 (by omega))
      refine wi_aload_n (i := 0) (x := 236) (nx := 249) (r1 := 0) (r2 := 0) (r3 := 0) rfl rfl ?_
      refine wr_gr (k0 := 236) (x := 238) (nx := 252) (r1 := 11) (r2 := 13) (r3 := 0) rfl rfl (by decide) rfl ⟨rfl, rfl⟩ rfl ?_
      refine wi_iload (i := 6) (e := e40) (nx := 254) (r1 := 0) (r2 := 0) (r3 := 0) rfl rfl ?_
      refine wi_iconst (n := 3) (nx := 255) (r1 := 0) (r2 := 0) (r3 := 0) rfl ?_
      refine wr_add (nx := 256) (r1 := 0) (r2 := 0) (r3 := 0) rfl (fun e52 (fe52 : e52 = e40 + 3) => ?_)
      refine wi_iload_n (i := 3) (e := 1) (nx := 257) (r1 := 0) (r2 := 0) (r3 := 0) rfl rfl ?_
      refine wi_S (rest := [vi e52, .ref 238]) (as := [vi 1]) (nx := 260) (r1 := 207) (r2 := 17) (r3 := 0) rfl rfl rfl (of_decide_eq_true rfl) rfl rfl (of_decide_eq_true rfl) (of_decide_eq_true rfl) ?_
      refine wi_iload_n (i := 0) (e := 1) (nx := 1) (r1 := 0) (r2 := 0) (r3 := 0) rfl rfl ?_
      refine wi_if (cd := .eq) (nx := 4) (r1 := 8) (r2 := 0) (r3 := 0) rfl (by omega) (fun (q53 : 1 = 0) => by exfalso; omega) (fun (q53 : ¬ (1 = 0)) => ?_)
      refine wi_iconst (n := 1) (nx := 5) (r1 := 0) (r2 := 0) (r3 := 0) rfl ?_
      refine wi_goto (nx := 8) (r1 := 9) (r2 := 0) (r3 := 0) rfl ?_
      refine wi_ireturn (nx := 10) (r1 := 0) (r2 := 0) (r3 := 0) rfl rfl ?_
      refine wk_i ?_
      refine wi_iload (i := 4) (e := 0) (nx := 262) (r1 := 0) (r2 := 0) (r3 := 0) rfl rfl ?_
      refine wi_S (rest := [vi 1, vi e52, .ref 238]) (as := [vi 0]) (nx := 265) (r1 := 207) (r2 := 17) (r3 := 0) rfl rfl rfl (of_decide_eq_true rfl) rfl rfl (of_decide_eq_true rfl) (of_decide_eq_true rfl) ?_
      refine wi_iload_n (i := 0) (e := 0) (nx := 1) (r1 := 0) (r2 := 0) (r3 := 0) rfl rfl ?_
      refine wi_if (cd := .eq) (nx := 4) (r1 := 8) (r2 := 0) (r3 := 0) rfl (by omega) (fun (q54 : 0 = 0) => ?_) (fun (q54 : ¬ (0 = 0)) => by exfalso; omega)
      refine wi_iconst (n := 0) (nx := 9) (r1 := 0) (r2 := 0) (r3 := 0) rfl ?_
      refine wi_ireturn (nx := 10) (r1 := 0) (r2 := 0) (r3 := 0) rfl rfl ?_
      refine wk_i ?_
      refine wi_iconst (n := 1) (nx := 266) (r1 := 0) (r2 := 0) (r3 := 0) rfl ?_
      refine wi_ishl (e := 0) (nx := 267) (r1 := 0) (r2 := 0) (r3 := 0) rfl (by decide) ?_
      refine wi_ior (e := 1) (nx := 268) (r1 := 0) (r2 := 0) (r3 := 0) rfl (by decide) ?_
      refine wi_aload_n (i := 0) (x := 236) (nx := 269) (r1 := 0) (r2 := 0) (r3 := 0) rfl rfl ?_
      refine wr_gr (k0 := 236) (x := 238) (nx := 272) (r1 := 11) (r2 := 13) (r3 := 0) rfl rfl (by decide) rfl ⟨rfl, rfl⟩ rfl ?_
      refine wi_bipush (n := 43) (nx := 274) (r1 := 0) (r2 := 0) (r3 := 0) rfl (by decide) ?_
      refine wi_iload_n (i := 1) (e := a0) (nx := 275) (r1 := 0) (r2 := 0) (r3 := 0) rfl rfl ?_
      refine wr_add (nx := 276) (r1 := 0) (r2 := 0) (r3 := 0) rfl (fun e55 (fe55 : e55 = 43 + a0) => ?_)
      obtain ⟨i56, ei56⟩ : ∃ q : Nat, e55 = (q : Int) := ⟨(e55).toNat, by omega⟩
      have b57 := gi_b (lo := 0) (hi := 999) g 238 i56 (gi_rg 43 12 (fun _ => rfl) (by decide +kernel) (by omega))
      refine wr_ia (k0 := 238) (a := e55) (f := i56) (x := h 238 i56) (nx := 277) (r1 := 0) (r2 := 0) (r3 := 0) rfl (by decide) rfl (by omega) (by omega) (by decide) ((u50 238 i56 (fn_i (by omega) fn_0)).trans ((u46 238 i56 (fn_i (by omega) fn_0)).trans ((u42 238 i56 (fn_i (by omega) fn_0)).trans ((u36 238 i56 (fn_i (by omega) fn_0)).trans ((u33 238 i56 (fn_i (by omega) fn_0)).trans ((u29 238 i56 (fn_i (by omega) fn_0)).trans ((u24 238 i56 (fn_i (by omega) fn_0)).trans ((u19 238 i56 (fn_i (by omega) fn_0)).trans (u17 238 i56 (fn_i (by omega) fn_0)))))))))) ?_
      refine wi_if (cd := .le) (nx := 280) (r1 := 284) (r2 := 0) (r3 := 0) rfl (by omega) (fun (q58 : (h 238 i56) ≤ 0) => ?_) (fun (q58 : ¬ ((h 238 i56) ≤ 0)) => ?_)
      ·
        refine wi_iconst (n := 0) (nx := 285) (r1 := 0) (r2 := 0) (r3 := 0) rfl ?_
        refine wi_S (rest := [vi 1, vi e52, .ref 238]) (as := [vi 0]) (nx := 288) (r1 := 207) (r2 := 17) (r3 := 0) rfl rfl rfl (of_decide_eq_true rfl) rfl rfl (of_decide_eq_true rfl) (of_decide_eq_true rfl) ?_
        refine wi_iload_n (i := 0) (e := 0) (nx := 1) (r1 := 0) (r2 := 0) (r3 := 0) rfl rfl ?_
        refine wi_if (cd := .eq) (nx := 4) (r1 := 8) (r2 := 0) (r3 := 0) rfl (by omega) (fun (q59 : 0 = 0) => ?_) (fun (q59 : ¬ (0 = 0)) => by exfalso; omega)
        refine wi_iconst (n := 0) (nx := 9) (r1 := 0) (r2 := 0) (r3 := 0) rfl ?_
        refine wi_ireturn (nx := 10) (r1 := 0) (r2 := 0) (r3 := 0) rfl rfl ?_
        refine wk_i ?_
        refine wi_iconst (n := 2) (nx := 289) (r1 := 0) (r2 := 0) (r3 := 0) rfl ?_
        refine wi_ishl (e := 0) (nx := 290) (r1 := 0) (r2 := 0) (r3 := 0) rfl (by decide) ?_
        refine wi_ior (e := 1) (nx := 291) (r1 := 0) (r2 := 0) (r3 := 0) rfl (by decide) ?_
        obtain ⟨i60, ei60⟩ : ∃ q : Nat, e52 = (q : Int) := ⟨(e52).toNat, by omega⟩
        refine wr_is (k0 := 238) (a := e52) (f := i60) (x := 1) (bl := -2147483648) (bh := 2147483647) (nx := 292) (r1 := 0) (r2 := 0) (r3 := 0) rfl (by decide) rfl (by omega) (by omega) (by decide) g50 (gi_rg 123 77 (fun _ => rfl) (by decide +kernel) (by omega)) (by omega) (fun h61 g61 w61 u61 => ?_)
        have F62 := F51.then rfl (FR.idx (p := 123) (q := 199) u61 (by omega))
        refine wi_aload_n (i := 0) (x := 236) (nx := 293) (r1 := 0) (r2 := 0) (r3 := 0) rfl rfl ?_
        refine wr_gr (k0 := 236) (x := 238) (nx := 296) (r1 := 11) (r2 := 13) (r3 := 0) rfl rfl (by decide) rfl ⟨rfl, rfl⟩ rfl ?_
        refine wi_bipush (n := 119) (nx := 298) (r1 := 0) (r2 := 0) (r3 := 0) rfl (by decide) ?_
        refine wi_dup2 (nx := 299) (r1 := 0) (r2 := 0) (r3 := 0) rfl rfl rfl ?_
        refine wr_ia (k0 := 238) (a := 119) (f := 119) (x := h 238 119) (nx := 300) (r1 := 0) (r2 := 0) (r3 := 0) rfl (by decide) rfl (by omega) (by omega) (by decide) ((u61 238 119 (fn_i (by omega) fn_0)).trans ((u50 238 119 (fn_i (by omega) fn_0)).trans ((u46 238 119 (fn_i (by omega) fn_0)).trans ((u42 238 119 (fn_i (by omega) fn_0)).trans ((u36 238 119 rfl).trans ((u33 238 119 rfl).trans ((u29 238 119 rfl).trans ((u24 238 119 rfl).trans ((u19 238 119 rfl).trans (u17 238 119 rfl)))))))))) ?_
        refine wi_iconst (n := 1) (nx := 301) (r1 := 0) (r2 := 0) (r3 := 0) rfl ?_
        refine wr_add (nx := 302) (r1 := 0) (r2 := 0) (r3 := 0) rfl (fun e63 (fe63 : e63 = (h 238 119) + 1) => ?_)
        refine wr_is (k0 := 238) (a := 119) (f := 119) (x := e63) (bl := 0) (bh := 9999) (nx := 303) (r1 := 0) (r2 := 0) (r3 := 0) rfl (by decide) rfl (by omega) (by omega) (by decide) g61 rfl (by omega) (fun h64 g64 w64 u64 => ?_)
        have F65 := F62.then rfl u64
        refine wi_return (nx := 304) (r1 := 0) (r2 := 0) (r3 := 0) rfl rfl ?_
        have e66 : h64 238 119 = e63 := w64
        have e67 : h64 238 67 = e35 := ((u64 238 67 rfl).trans ((u61 238 67 (fn_i (by omega) fn_0)).trans ((u50 238 67 (fn_i (by omega) fn_0)).trans ((u46 238 67 (fn_i (by omega) fn_0)).trans ((u42 238 67 (fn_i (by omega) fn_0)).trans w36)))))
        have e68 : h64 238 69 = 1 := ((u64 238 69 rfl).trans ((u61 238 69 (fn_i (by omega) fn_0)).trans ((u50 238 69 (fn_i (by omega) fn_0)).trans ((u46 238 69 (fn_i (by omega) fn_0)).trans ((u42 238 69 (fn_i (by omega) fn_0)).trans ((u36 238 69 rfl).trans ((u33 238 69 rfl).trans ((u29 238 69 rfl).trans ((u24 238 69 rfl).trans ((u19 238 69 rfl).trans w17))))))))))
        have e69 : h64 238 5 = h 238 5 := ((u64 238 5 rfl).trans ((u61 238 5 (fn_i (by omega) fn_0)).trans ((u50 238 5 (fn_i (by omega) fn_0)).trans ((u46 238 5 (fn_i (by omega) fn_0)).trans ((u42 238 5 (fn_i (by omega) fn_0)).trans ((u36 238 5 rfl).trans ((u33 238 5 rfl).trans ((u29 238 5 rfl).trans ((u24 238 5 rfl).trans ((u19 238 5 rfl).trans (u17 238 5 rfl)))))))))))
        exact k h64 g64 F65 (show (h64 238 119) ≤ (h64 238 67) by omega) (show (h64 238 69) ≤ (h64 238 5) by omega)
      ·
        refine wi_iconst (n := 1) (nx := 281) (r1 := 0) (r2 := 0) (r3 := 0) rfl ?_
        refine wi_goto (nx := 284) (r1 := 285) (r2 := 0) (r3 := 0) rfl ?_
        refine wi_S (rest := [vi 1, vi e52, .ref 238]) (as := [vi 1]) (nx := 288) (r1 := 207) (r2 := 17) (r3 := 0) rfl rfl rfl (of_decide_eq_true rfl) rfl rfl (of_decide_eq_true rfl) (of_decide_eq_true rfl) ?_
        refine wi_iload_n (i := 0) (e := 1) (nx := 1) (r1 := 0) (r2 := 0) (r3 := 0) rfl rfl ?_
        refine wi_if (cd := .eq) (nx := 4) (r1 := 8) (r2 := 0) (r3 := 0) rfl (by omega) (fun (q59 : 1 = 0) => by exfalso; omega) (fun (q59 : ¬ (1 = 0)) => ?_)
        refine wi_iconst (n := 1) (nx := 5) (r1 := 0) (r2 := 0) (r3 := 0) rfl ?_
        refine wi_goto (nx := 8) (r1 := 9) (r2 := 0) (r3 := 0) rfl ?_
        refine wi_ireturn (nx := 10) (r1 := 0) (r2 := 0) (r3 := 0) rfl rfl ?_
        refine wk_i ?_
        refine wi_iconst (n := 2) (nx := 289) (r1 := 0) (r2 := 0) (r3 := 0) rfl ?_
        refine wi_ishl (e := 4) (nx := 290) (r1 := 0) (r2 := 0) (r3 := 0) rfl (by decide) ?_
        refine wi_ior (e := 5) (nx := 291) (r1 := 0) (r2 := 0) (r3 := 0) rfl (by decide) ?_
        obtain ⟨i60, ei60⟩ : ∃ q : Nat, e52 = (q : Int) := ⟨(e52).toNat, by omega⟩
        refine wr_is (k0 := 238) (a := e52) (f := i60) (x := 5) (bl := -2147483648) (bh := 2147483647) (nx := 292) (r1 := 0) (r2 := 0) (r3 := 0) rfl (by decide) rfl (by omega) (by omega) (by decide) g50 (gi_rg 123 77 (fun _ => rfl) (by decide +kernel) (by omega)) (by omega) (fun h61 g61 w61 u61 => ?_)
        have F62 := F51.then rfl (FR.idx (p := 123) (q := 199) u61 (by omega))
        refine wi_aload_n (i := 0) (x := 236) (nx := 293) (r1 := 0) (r2 := 0) (r3 := 0) rfl rfl ?_
        refine wr_gr (k0 := 236) (x := 238) (nx := 296) (r1 := 11) (r2 := 13) (r3 := 0) rfl rfl (by decide) rfl ⟨rfl, rfl⟩ rfl ?_
        refine wi_bipush (n := 119) (nx := 298) (r1 := 0) (r2 := 0) (r3 := 0) rfl (by decide) ?_
        refine wi_dup2 (nx := 299) (r1 := 0) (r2 := 0) (r3 := 0) rfl rfl rfl ?_
        refine wr_ia (k0 := 238) (a := 119) (f := 119) (x := h 238 119) (nx := 300) (r1 := 0) (r2 := 0) (r3 := 0) rfl (by decide) rfl (by omega) (by omega) (by decide) ((u61 238 119 (fn_i (by omega) fn_0)).trans ((u50 238 119 (fn_i (by omega) fn_0)).trans ((u46 238 119 (fn_i (by omega) fn_0)).trans ((u42 238 119 (fn_i (by omega) fn_0)).trans ((u36 238 119 rfl).trans ((u33 238 119 rfl).trans ((u29 238 119 rfl).trans ((u24 238 119 rfl).trans ((u19 238 119 rfl).trans (u17 238 119 rfl)))))))))) ?_
        refine wi_iconst (n := 1) (nx := 301) (r1 := 0) (r2 := 0) (r3 := 0) rfl ?_
        refine wr_add (nx := 302) (r1 := 0) (r2 := 0) (r3 := 0) rfl (fun e63 (fe63 : e63 = (h 238 119) + 1) => ?_)
        refine wr_is (k0 := 238) (a := 119) (f := 119) (x := e63) (bl := 0) (bh := 9999) (nx := 303) (r1 := 0) (r2 := 0) (r3 := 0) rfl (by decide) rfl (by omega) (by omega) (by decide) g61 rfl (by omega) (fun h64 g64 w64 u64 => ?_)
        have F65 := F62.then rfl u64
        refine wi_return (nx := 304) (r1 := 0) (r2 := 0) (r3 := 0) rfl rfl ?_
        have e66 : h64 238 119 = e63 := w64
        have e67 : h64 238 67 = e35 := ((u64 238 67 rfl).trans ((u61 238 67 (fn_i (by omega) fn_0)).trans ((u50 238 67 (fn_i (by omega) fn_0)).trans ((u46 238 67 (fn_i (by omega) fn_0)).trans ((u42 238 67 (fn_i (by omega) fn_0)).trans w36)))))
        have e68 : h64 238 69 = 1 := ((u64 238 69 rfl).trans ((u61 238 69 (fn_i (by omega) fn_0)).trans ((u50 238 69 (fn_i (by omega) fn_0)).trans ((u46 238 69 (fn_i (by omega) fn_0)).trans ((u42 238 69 (fn_i (by omega) fn_0)).trans ((u36 238 69 rfl).trans ((u33 238 69 rfl).trans ((u29 238 69 rfl).trans ((u24 238 69 rfl).trans ((u19 238 69 rfl).trans w17))))))))))
        have e69 : h64 238 5 = h 238 5 := ((u64 238 5 rfl).trans ((u61 238 5 (fn_i (by omega) fn_0)).trans ((u50 238 5 (fn_i (by omega) fn_0)).trans ((u46 238 5 (fn_i (by omega) fn_0)).trans ((u42 238 5 (fn_i (by omega) fn_0)).trans ((u36 238 5 rfl).trans ((u33 238 5 rfl).trans ((u29 238 5 rfl).trans ((u24 238 5 rfl).trans ((u19 238 5 rfl).trans (u17 238 5 rfl)))))))))))
        exact k h64 g64 F65 (show (h64 238 119) ≤ (h64 238 67) by omega) (show (h64 238 69) ≤ (h64 238 5) by omega)
