-- method 317: Model.boundOf(Z)I
set_option maxRecDepth 100000 in
set_option maxHeartbeats 100000000 in
theorem ct_317_236 {L : Nat} {xs : Nat → Int32} {d b c : Nat} {h : hp} {cr : Nat → Nat → Option Nat} {Q : hp_Q} (hcr : CR cr)  (g : GI h) (a0 : Int) (q0_ : 0 ≤ a0 ∧ a0 ≤ 1)  (k : ∀ (z0 : Int), (-2147483648 ≤ z0 ∧ z0 ≤ 2147483647) → Q (.inl (some (vi z0))) (hp_w h cr) b c) : wp (md_xa (L, xs)) (d + 3) 317 (0, [(0, .ref 236), (1, vi a0)], [], hp_w h cr, b, c) Q := by
  have F0 : FR [] h h := FR.refl
  refine wi_iconst (n := 0) (nx := 1) (r1 := 0) (r2 := 0) (r3 := 0) rfl ?_
  refine wi_istore_n (i := 2) (e := 0) (lo2 := [(2, vi 0), (0, .ref 236), (1, vi a0)]) (nx := 2) (r1 := 0) (r2 := 0) (r3 := 0) rfl rfl ?_
  refine wi_iconst (n := 0) (nx := 3) (r1 := 0) (r2 := 0) (r3 := 0) rfl ?_
  refine wi_istore_n (i := 3) (e := 0) (lo2 := [(3, vi 0), (2, vi 0), (0, .ref 236), (1, vi a0)]) (nx := 4) (r1 := 0) (r2 := 0) (r3 := 0) rfl rfl ?_
  refine wi_iconst (n := 0) (nx := 5) (r1 := 0) (r2 := 0) (r3 := 0) rfl ?_
  refine wi_istore (i := 4) (e := 0) (lo2 := [(4, vi 0), (3, vi 0), (2, vi 0), (0, .ref 236), (1, vi a0)]) (nx := 7) (r1 := 0) (r2 := 0) (r3 := 0) rfl rfl ?_
  refine wi_iconst (n := 0) (nx := 8) (r1 := 0) (r2 := 0) (r3 := 0) rfl ?_
  refine wi_istore (i := 5) (e := 0) (lo2 := [(5, vi 0), (4, vi 0), (3, vi 0), (2, vi 0), (0, .ref 236), (1, vi a0)]) (nx := 10) (r1 := 0) (r2 := 0) (r3 := 0) rfl rfl ?_
  refine wp.lo (lo := [(0, .ref 236), (1, vi a0), (2, vi 0), (3, vi 0), (4, vi 0), (5, vi 0)]) ⟨rfl, rfl, rfl, rfl, rfl, rfl, trivial⟩ rfl ?_
  refine wl_2 (fun x1 x2 h3 => h = h3 ∧ ((-2147483648 ≤ x1 ∧ x1 ≤ 2147483647) ∧ (0 ≤ x2 ∧ x2 ≤ 12))) (fun x1 x2 h3 => ((12 : Int) + 1 - x2).toNat) (fun x1 x2 h3 => (10, [(0, .ref 236), (1, vi a0), (2, vi x1), (3, vi 0), (4, vi 0), (5, vi x2)], [], hp_w h3 cr, b, c)) ?_ 0 0 h ⟨rfl, (show (-2147483648 ≤ 0 ∧ 0 ≤ 2147483647) ∧ (0 ≤ 0 ∧ 0 ≤ 12) by omega)⟩
  intro x1 x2 h3 ⟨e3, f3⟩ I3
  subst e3
  refine wi_iload (i := 5) (e := x2) (nx := 12) (r1 := 0) (r2 := 0) (r3 := 0) rfl rfl ?_
  refine wi_aload_n (i := 0) (x := 236) (nx := 13) (r1 := 0) (r2 := 0) (r3 := 0) rfl rfl ?_
  refine wr_gr (k0 := 236) (x := 238) (nx := 16) (r1 := 11) (r2 := 13) (r3 := 0) rfl rfl (by decide) rfl ⟨rfl, rfl⟩ rfl ?_
  refine wi_iconst (n := 2) (nx := 17) (r1 := 0) (r2 := 0) (r3 := 0) rfl ?_
  have b5 := gi_b (lo := 0) (hi := 12) g 238 2 rfl
  refine wr_ia (k0 := 238) (a := 2) (f := 2) (x := h 238 2) (nx := 18) (r1 := 0) (r2 := 0) (r3 := 0) rfl (by decide) rfl (by omega) (by omega) (by decide) rfl ?_
  refine wi_icmp (cd := .ge) (nx := 21) (r1 := 69) (r2 := 0) (r3 := 0) rfl (by omega) (by omega) (fun (q6 : (h 238 2) ≤ x2) => ?_) (fun (q6 : ¬ ((h 238 2) ≤ x2)) => ?_)
  ·
    refine wi_iconst (n := 0) (nx := 70) (r1 := 0) (r2 := 0) (r3 := 0) rfl ?_
    refine wi_istore (i := 5) (e := 0) (lo2 := [(5, vi 0), (0, .ref 236), (1, vi a0), (2, vi x1), (3, vi 0), (4, vi 0)]) (nx := 72) (r1 := 0) (r2 := 0) (r3 := 0) rfl rfl ?_
    refine wp.lo (lo := [(0, .ref 236), (2, vi x1), (3, vi 0), (4, vi 0), (5, vi 0)]) ⟨rfl, rfl, rfl, rfl, rfl, trivial⟩ rfl ?_
    refine wl_3 (fun x7 x8 x9 h10 => h = h10 ∧ ((-2147483648 ≤ x7 ∧ x7 ≤ 2147483647) ∧ (0 ≤ x8 ∧ x8 ≤ 999) ∧ (0 ≤ x9 ∧ x9 ≤ 5))) (fun x7 x8 x9 h10 => ((5 : Int) + 1 - x9).toNat) (fun x7 x8 x9 h10 => (72, [(0, .ref 236), (2, vi x1), (3, vi x7), (4, vi x8), (5, vi x9)], [], hp_w h10 cr, b, c)) ?_ 0 0 0 h ⟨rfl, (show (-2147483648 ≤ 0 ∧ 0 ≤ 2147483647) ∧ (0 ≤ 0 ∧ 0 ≤ 999) ∧ (0 ≤ 0 ∧ 0 ≤ 5) by omega)⟩
    intro x7 x8 x9 h10 ⟨e10, f10⟩ I10
    subst e10
    refine wi_iload (i := 5) (e := x9) (nx := 74) (r1 := 0) (r2 := 0) (r3 := 0) rfl rfl ?_
    refine wi_iconst (n := 5) (nx := 75) (r1 := 0) (r2 := 0) (r3 := 0) rfl ?_
    refine wi_icmp (cd := .ge) (nx := 78) (r1 := 138) (r2 := 0) (r3 := 0) rfl (by omega) (by omega) (fun (q12 : 5 ≤ x9) => ?_) (fun (q12 : ¬ (5 ≤ x9)) => ?_)
    ·
      refine wi_aload_n (i := 0) (x := 236) (nx := 139) (r1 := 0) (r2 := 0) (r3 := 0) rfl rfl ?_
      refine wr_gr (k0 := 236) (x := 238) (nx := 142) (r1 := 11) (r2 := 13) (r3 := 0) rfl rfl (by decide) rfl ⟨rfl, rfl⟩ rfl ?_
      refine wi_bipush (n := 68) (nx := 144) (r1 := 0) (r2 := 0) (r3 := 0) rfl (by decide) ?_
      have b13 := gi_b (lo := -1) (hi := 4) g 238 68 rfl
      refine wr_ia (k0 := 238) (a := 68) (f := 68) (x := h 238 68) (nx := 145) (r1 := 0) (r2 := 0) (r3 := 0) rfl (by decide) rfl (by omega) (by omega) (by decide) rfl ?_
      refine wi_iconst (n := (-1)) (nx := 146) (r1 := 0) (r2 := 0) (r3 := 0) rfl ?_
      refine wi_icmp (cd := .ne) (nx := 149) (r1 := 156) (r2 := 0) (r3 := 0) rfl (by omega) (by omega) (fun (q14 : (h 238 68) ≠ (-1)) => ?_) (fun (q14 : ¬ ((h 238 68) ≠ (-1))) => ?_)
      ·
        refine wi_iload_n (i := 3) (e := x7) (nx := 157) (r1 := 0) (r2 := 0) (r3 := 0) rfl rfl ?_
        refine wi_ireturn (nx := 158) (r1 := 0) (r2 := 0) (r3 := 0) rfl rfl ?_
        exact k x7 (by omega)
      ·
        refine wi_iload_n (i := 3) (e := x7) (nx := 150) (r1 := 0) (r2 := 0) (r3 := 0) rfl rfl ?_
        refine wi_iload (i := 4) (e := x8) (nx := 152) (r1 := 0) (r2 := 0) (r3 := 0) rfl rfl ?_
        refine wr_subW (nx := 153) (r1 := 0) (r2 := 0) (r3 := 0) rfl (fun e15 (fe15 : -2147483648 ≤ e15 ∧ e15 ≤ 2147483647) => ?_)
        refine wi_goto (nx := 156) (r1 := 157) (r2 := 0) (r3 := 0) rfl ?_
        refine wi_ireturn (nx := 158) (r1 := 0) (r2 := 0) (r3 := 0) rfl rfl ?_
        exact k e15 (by omega)
    ·
      refine wi_iload_n (i := 2) (e := x1) (nx := 79) (r1 := 0) (r2 := 0) (r3 := 0) rfl rfl ?_
      refine wi_iload (i := 5) (e := x9) (nx := 81) (r1 := 0) (r2 := 0) (r3 := 0) rfl rfl ?_
      refine wi_S (rest := []) (as := [vi x1, vi x9]) (nx := 84) (r1 := 318) (r2 := 18) (r3 := 0) rfl rfl rfl (of_decide_eq_true rfl) rfl rfl (of_decide_eq_true rfl) (of_decide_eq_true rfl) ?_
      refine wi_iload_n (i := 0) (e := x1) (nx := 1) (r1 := 0) (r2 := 0) (r3 := 0) rfl rfl ?_
      refine wi_iload_n (i := 1) (e := x9) (nx := 2) (r1 := 0) (r2 := 0) (r3 := 0) rfl rfl ?_
      refine wr_ishrA (nx := 3) (r1 := 0) (r2 := 0) (r3 := 0) rfl (fun e13 (fe13 : -2147483648 ≤ e13 ∧ e13 ≤ 2147483647) => ?_)
      refine wi_iconst (n := 1) (nx := 4) (r1 := 0) (r2 := 0) (r3 := 0) rfl ?_
      refine wi_iandm (m := 1) (nx := 5) (r1 := 0) (r2 := 0) (r3 := 0) rfl (by decide) (by decide) (fun e14 (fe14 : 0 ≤ e14 ∧ e14 ≤ 1) => ?_)
      refine wi_iconst (n := 1) (nx := 6) (r1 := 0) (r2 := 0) (r3 := 0) rfl ?_
      refine wi_icmp (cd := .ne) (nx := 9) (r1 := 13) (r2 := 0) (r3 := 0) rfl (by omega) (by omega) (fun (q15 : e14 ≠ 1) => ?_) (fun (q15 : ¬ (e14 ≠ 1)) => ?_)
      ·
        refine wi_iconst (n := 0) (nx := 14) (r1 := 0) (r2 := 0) (r3 := 0) rfl ?_
        refine wi_zreturn (nx := 15) (r1 := 0) (r2 := 0) (r3 := 0) rfl rfl (by omega) ?_
        refine wk_i ?_
        refine wi_if (cd := .eq) (nx := 87) (r1 := 132) (r2 := 0) (r3 := 0) rfl (by omega) (fun (q16 : 0 = 0) => ?_) (fun (q16 : ¬ (0 = 0)) => by exfalso; omega)
        refine wr_iinc (i := 5) (n := 1) (v := x9) (fun e17 => [(5, vi e17), (0, .ref 236), (2, vi x1), (3, vi x7), (4, vi x8)]) (nx := 135) (r1 := 0) (r2 := 0) (r3 := 0) rfl rfl (fun _ => rfl) (fun e17 (fe17 : e17 = x9 + 1) => ?_)
        refine wi_goto (nx := 138) (r1 := 72) (r2 := 0) (r3 := 0) rfl ?_
        refine wp.lo (lo := [(0, .ref 236), (2, vi x1), (3, vi x7), (4, vi x8), (5, vi e17)]) ⟨rfl, rfl, rfl, rfl, rfl, trivial⟩ rfl ?_
        exact I10 x7 x8 e17 h ⟨rfl, (show (-2147483648 ≤ x7 ∧ x7 ≤ 2147483647) ∧ (0 ≤ x8 ∧ x8 ≤ 999) ∧ (0 ≤ e17 ∧ e17 ≤ 5) by omega)⟩ (show ((5 : Int) + 1 - e17).toNat < ((5 : Int) + 1 - x9).toNat by omega)
      ·
        refine wi_iconst (n := 1) (nx := 10) (r1 := 0) (r2 := 0) (r3 := 0) rfl ?_
        refine wi_goto (nx := 13) (r1 := 14) (r2 := 0) (r3 := 0) rfl ?_
        refine wi_zreturn (nx := 15) (r1 := 0) (r2 := 0) (r3 := 0) rfl rfl (by omega) ?_
        refine wk_i ?_
        refine wi_if (cd := .eq) (nx := 87) (r1 := 132) (r2 := 0) (r3 := 0) rfl (by omega) (fun (q16 : 1 = 0) => by exfalso; omega) (fun (q16 : ¬ (1 = 0)) => ?_)
        refine wi_iload (i := 5) (e := x9) (nx := 89) (r1 := 0) (r2 := 0) (r3 := 0) rfl rfl ?_
        refine wi_aload_n (i := 0) (x := 236) (nx := 90) (r1 := 0) (r2 := 0) (r3 := 0) rfl rfl ?_
        refine wr_gr (k0 := 236) (x := 238) (nx := 93) (r1 := 11) (r2 := 13) (r3 := 0) rfl rfl (by decide) rfl ⟨rfl, rfl⟩ rfl ?_
        refine wi_bipush (n := 68) (nx := 95) (r1 := 0) (r2 := 0) (r3 := 0) rfl (by decide) ?_
        have b17 := gi_b (lo := -1) (hi := 4) g 238 68 rfl
        refine wr_ia (k0 := 238) (a := 68) (f := 68) (x := h 238 68) (nx := 96) (r1 := 0) (r2 := 0) (r3 := 0) rfl (by decide) rfl (by omega) (by omega) (by decide) rfl ?_
        refine wi_icmp (cd := .ne) (nx := 99) (r1 := 102) (r2 := 0) (r3 := 0) rfl (by omega) (by omega) (fun (q18 : x9 ≠ (h 238 68)) => ?_) (fun (q18 : ¬ (x9 ≠ (h 238 68))) => ?_)
        ·
          refine wi_iload_n (i := 3) (e := x7) (nx := 103) (r1 := 0) (r2 := 0) (r3 := 0) rfl rfl ?_
          refine wi_aload_n (i := 0) (x := 236) (nx := 104) (r1 := 0) (r2 := 0) (r3 := 0) rfl rfl ?_
          refine wr_gr (k0 := 236) (x := 238) (nx := 107) (r1 := 11) (r2 := 13) (r3 := 0) rfl rfl (by decide) rfl ⟨rfl, rfl⟩ rfl ?_
          refine wi_bipush (n := 10) (nx := 109) (r1 := 0) (r2 := 0) (r3 := 0) rfl (by decide) ?_
          refine wi_iload (i := 5) (e := x9) (nx := 111) (r1 := 0) (r2 := 0) (r3 := 0) rfl rfl ?_
          refine wr_add (nx := 112) (r1 := 0) (r2 := 0) (r3 := 0) rfl (fun e19 (fe19 : e19 = 10 + x9) => ?_)
          obtain ⟨i20, ei20⟩ : ∃ q : Nat, e19 = (q : Int) := ⟨(e19).toNat, by omega⟩
          have b21 := gi_b (lo := 0) (hi := 999) g 238 i20 (gi_rg 10 5 (fun _ => rfl) (by decide +kernel) (by omega))
          refine wr_ia (k0 := 238) (a := e19) (f := i20) (x := h 238 i20) (nx := 113) (r1 := 0) (r2 := 0) (r3 := 0) rfl (by decide) rfl (by omega) (by omega) (by decide) rfl ?_
          refine wr_addW (nx := 114) (r1 := 0) (r2 := 0) (r3 := 0) rfl (fun e22 (fe22 : -2147483648 ≤ e22 ∧ e22 ≤ 2147483647) => ?_)
          refine wi_istore_n (i := 3) (e := e22) (lo2 := [(3, vi e22), (0, .ref 236), (2, vi x1), (4, vi x8), (5, vi x9)]) (nx := 115) (r1 := 0) (r2 := 0) (r3 := 0) rfl rfl ?_
          refine wi_iload (i := 4) (e := x8) (nx := 117) (r1 := 0) (r2 := 0) (r3 := 0) rfl rfl ?_
          refine wi_aload_n (i := 0) (x := 236) (nx := 118) (r1 := 0) (r2 := 0) (r3 := 0) rfl rfl ?_
          refine wr_gr (k0 := 236) (x := 238) (nx := 121) (r1 := 11) (r2 := 13) (r3 := 0) rfl rfl (by decide) rfl ⟨rfl, rfl⟩ rfl ?_
          refine wi_bipush (n := 10) (nx := 123) (r1 := 0) (r2 := 0) (r3 := 0) rfl (by decide) ?_
          refine wi_iload (i := 5) (e := x9) (nx := 125) (r1 := 0) (r2 := 0) (r3 := 0) rfl rfl ?_
          refine wr_add (nx := 126) (r1 := 0) (r2 := 0) (r3 := 0) rfl (fun e23 (fe23 : e23 = 10 + x9) => ?_)
          refine wr_ia (k0 := 238) (a := e23) (f := i20) (x := h 238 i20) (nx := 127) (r1 := 0) (r2 := 0) (r3 := 0) rfl (by decide) rfl (by omega) (by omega) (by decide) rfl ?_
          refine wi_S (rest := []) (as := [vi x8, vi (h 238 i20)]) (nx := 130) (r1 := 250) (r2 := 18) (r3 := 0) rfl rfl rfl (of_decide_eq_true rfl) rfl rfl (of_decide_eq_true rfl) (of_decide_eq_true rfl) ?_
          refine wi_iload_n (i := 0) (e := x8) (nx := 1) (r1 := 0) (r2 := 0) (r3 := 0) rfl rfl ?_
          refine wi_iload_n (i := 1) (e := h 238 i20) (nx := 2) (r1 := 0) (r2 := 0) (r3 := 0) rfl rfl ?_
          refine wi_icmp (cd := .le) (nx := 5) (r1 := 9) (r2 := 0) (r3 := 0) rfl (by omega) (by omega) (fun (q24 : x8 ≤ (h 238 i20)) => ?_) (fun (q24 : ¬ (x8 ≤ (h 238 i20))) => ?_)
          ·
            refine wi_iload_n (i := 1) (e := h 238 i20) (nx := 10) (r1 := 0) (r2 := 0) (r3 := 0) rfl rfl ?_
            refine wi_ireturn (nx := 11) (r1 := 0) (r2 := 0) (r3 := 0) rfl rfl ?_
            refine wk_i ?_
            refine wi_istore (i := 4) (e := h 238 i20) (lo2 := [(4, vi (h 238 i20)), (3, vi e22), (0, .ref 236), (2, vi x1), (5, vi x9)]) (nx := 132) (r1 := 0) (r2 := 0) (r3 := 0) rfl rfl ?_
            refine wr_iinc (i := 5) (n := 1) (v := x9) (fun e25 => [(5, vi e25), (4, vi (h 238 i20)), (3, vi e22), (0, .ref 236), (2, vi x1)]) (nx := 135) (r1 := 0) (r2 := 0) (r3 := 0) rfl rfl (fun _ => rfl) (fun e25 (fe25 : e25 = x9 + 1) => ?_)
            refine wi_goto (nx := 138) (r1 := 72) (r2 := 0) (r3 := 0) rfl ?_
            refine wp.lo (lo := [(0, .ref 236), (2, vi x1), (3, vi e22), (4, vi (h 238 i20)), (5, vi e25)]) ⟨rfl, rfl, rfl, rfl, rfl, trivial⟩ rfl ?_
            exact I10 e22 (h 238 i20) e25 h ⟨rfl, (show (-2147483648 ≤ e22 ∧ e22 ≤ 2147483647) ∧ (0 ≤ (h 238 i20) ∧ (h 238 i20) ≤ 999) ∧ (0 ≤ e25 ∧ e25 ≤ 5) by omega)⟩ (show ((5 : Int) + 1 - e25).toNat < ((5 : Int) + 1 - x9).toNat by omega)
          ·
            refine wi_iload_n (i := 0) (e := x8) (nx := 6) (r1 := 0) (r2 := 0) (r3 := 0) rfl rfl ?_
            refine wi_goto (nx := 9) (r1 := 10) (r2 := 0) (r3 := 0) rfl ?_
            refine wi_ireturn (nx := 11) (r1 := 0) (r2 := 0) (r3 := 0) rfl rfl ?_
            refine wk_i ?_
            refine wi_istore (i := 4) (e := x8) (lo2 := [(4, vi x8), (3, vi e22), (0, .ref 236), (2, vi x1), (5, vi x9)]) (nx := 132) (r1 := 0) (r2 := 0) (r3 := 0) rfl rfl ?_
            refine wr_iinc (i := 5) (n := 1) (v := x9) (fun e25 => [(5, vi e25), (4, vi x8), (3, vi e22), (0, .ref 236), (2, vi x1)]) (nx := 135) (r1 := 0) (r2 := 0) (r3 := 0) rfl rfl (fun _ => rfl) (fun e25 (fe25 : e25 = x9 + 1) => ?_)
            refine wi_goto (nx := 138) (r1 := 72) (r2 := 0) (r3 := 0) rfl ?_
            refine wp.lo (lo := [(0, .ref 236), (2, vi x1), (3, vi e22), (4, vi x8), (5, vi e25)]) ⟨rfl, rfl, rfl, rfl, rfl, trivial⟩ rfl ?_
            exact I10 e22 x8 e25 h ⟨rfl, (show (-2147483648 ≤ e22 ∧ e22 ≤ 2147483647) ∧ (0 ≤ x8 ∧ x8 ≤ 999) ∧ (0 ≤ e25 ∧ e25 ≤ 5) by omega)⟩ (show ((5 : Int) + 1 - e25).toNat < ((5 : Int) + 1 - x9).toNat by omega)
        ·
          refine wi_goto (nx := 102) (r1 := 132) (r2 := 0) (r3 := 0) rfl ?_
          refine wr_iinc (i := 5) (n := 1) (v := x9) (fun e19 => [(5, vi e19), (0, .ref 236), (2, vi x1), (3, vi x7), (4, vi x8)]) (nx := 135) (r1 := 0) (r2 := 0) (r3 := 0) rfl rfl (fun _ => rfl) (fun e19 (fe19 : e19 = x9 + 1) => ?_)
          refine wi_goto (nx := 138) (r1 := 72) (r2 := 0) (r3 := 0) rfl ?_
          refine wp.lo (lo := [(0, .ref 236), (2, vi x1), (3, vi x7), (4, vi x8), (5, vi e19)]) ⟨rfl, rfl, rfl, rfl, rfl, trivial⟩ rfl ?_
          exact I10 x7 x8 e19 h ⟨rfl, (show (-2147483648 ≤ x7 ∧ x7 ≤ 2147483647) ∧ (0 ≤ x8 ∧ x8 ≤ 999) ∧ (0 ≤ e19 ∧ e19 ≤ 5) by omega)⟩ (show ((5 : Int) + 1 - e19).toNat < ((5 : Int) + 1 - x9).toNat by omega)
  ·
    refine wi_iload_n (i := 1) (e := a0) (nx := 22) (r1 := 0) (r2 := 0) (r3 := 0) rfl rfl ?_
    refine wi_if (cd := .eq) (nx := 25) (r1 := 38) (r2 := 0) (r3 := 0) rfl (by omega) (fun (q7 : a0 = 0) => ?_) (fun (q7 : ¬ (a0 = 0)) => ?_)
    ·
      refine wi_aload_n (i := 0) (x := 236) (nx := 39) (r1 := 0) (r2 := 0) (r3 := 0) rfl rfl ?_
      refine wi_iload (i := 5) (e := x2) (nx := 41) (r1 := 0) (r2 := 0) (r3 := 0) rfl rfl ?_
      refine wr_V (k0 := 236) (rest := []) (as := [.ref 236, vi x2]) (nx := 44) (r1 := 252) (r2 := 1) (r3 := 11) rfl rfl rfl (of_decide_eq_true rfl) rfl rfl (by decide) rfl rfl (of_decide_eq_true rfl) (of_decide_eq_true rfl) ?_
      refine ct_252_236 hcr  g x2 (by omega)  (fun z9  (fz9 : 0 ≤ z9 ∧ z9 ≤ 3) => ?_)
      refine wk_i ?_
      refine wi_iconst (n := 3) (nx := 45) (r1 := 0) (r2 := 0) (r3 := 0) rfl ?_
      refine wi_icmp (cd := .eq) (nx := 48) (r1 := 63) (r2 := 0) (r3 := 0) rfl (by omega) (by omega) (fun (q10 : z9 = 3) => ?_) (fun (q10 : ¬ (z9 = 3)) => ?_)
      ·
        refine wr_iinc (i := 5) (n := 1) (v := x2) (fun e11 => [(5, vi e11), (0, .ref 236), (1, vi a0), (2, vi x1), (3, vi 0), (4, vi 0)]) (nx := 66) (r1 := 0) (r2 := 0) (r3 := 0) rfl rfl (fun _ => rfl) (fun e11 (fe11 : e11 = x2 + 1) => ?_)
        refine wi_goto (nx := 69) (r1 := 10) (r2 := 0) (r3 := 0) rfl ?_
        refine wp.lo (lo := [(0, .ref 236), (1, vi a0), (2, vi x1), (3, vi 0), (4, vi 0), (5, vi e11)]) ⟨rfl, rfl, rfl, rfl, rfl, rfl, trivial⟩ rfl ?_
        exact I3 x1 e11 h ⟨rfl, (show (-2147483648 ≤ x1 ∧ x1 ≤ 2147483647) ∧ (0 ≤ e11 ∧ e11 ≤ 12) by omega)⟩ (show ((12 : Int) + 1 - e11).toNat < ((12 : Int) + 1 - x2).toNat by omega)
      ·
        refine wi_iload_n (i := 2) (e := x1) (nx := 49) (r1 := 0) (r2 := 0) (r3 := 0) rfl rfl ?_
        refine wi_iconst (n := 1) (nx := 50) (r1 := 0) (r2 := 0) (r3 := 0) rfl ?_
        refine wi_aload_n (i := 0) (x := 236) (nx := 51) (r1 := 0) (r2 := 0) (r3 := 0) rfl rfl ?_
        refine wr_gr (k0 := 236) (x := 238) (nx := 54) (r1 := 11) (r2 := 13) (r3 := 0) rfl rfl (by decide) rfl ⟨rfl, rfl⟩ rfl ?_
        refine wi_bipush (n := 31) (nx := 56) (r1 := 0) (r2 := 0) (r3 := 0) rfl (by decide) ?_
        refine wi_iload (i := 5) (e := x2) (nx := 58) (r1 := 0) (r2 := 0) (r3 := 0) rfl rfl ?_
        refine wr_add (nx := 59) (r1 := 0) (r2 := 0) (r3 := 0) rfl (fun e11 (fe11 : e11 = 31 + x2) => ?_)
        obtain ⟨i12, ei12⟩ : ∃ q : Nat, e11 = (q : Int) := ⟨(e11).toNat, by omega⟩
        have b13 := gi_b (lo := 0) (hi := 4) g 238 i12 (gi_rg 31 12 (fun _ => rfl) (by decide +kernel) (by omega))
        refine wr_ia (k0 := 238) (a := e11) (f := i12) (x := h 238 i12) (nx := 60) (r1 := 0) (r2 := 0) (r3 := 0) rfl (by decide) rfl (by omega) (by omega) (by decide) rfl ?_
        refine wr_ishl1 (y := h 238 i12) (nx := 61) (r1 := 0) (r2 := 0) (r3 := 0) rfl (by omega) (fun e14 (fe14 : 1 ≤ e14 ∧ e14 ≤ 4096) ve14 => ?_)
        refine wr_iorA (nx := 62) (r1 := 0) (r2 := 0) (r3 := 0) rfl (fun e15 (fe15 : -2147483648 ≤ e15 ∧ e15 ≤ 2147483647) => ?_)
        refine wi_istore_n (i := 2) (e := e15) (lo2 := [(2, vi e15), (0, .ref 236), (1, vi a0), (3, vi 0), (4, vi 0), (5, vi x2)]) (nx := 63) (r1 := 0) (r2 := 0) (r3 := 0) rfl rfl ?_
        refine wr_iinc (i := 5) (n := 1) (v := x2) (fun e16 => [(5, vi e16), (2, vi e15), (0, .ref 236), (1, vi a0), (3, vi 0), (4, vi 0)]) (nx := 66) (r1 := 0) (r2 := 0) (r3 := 0) rfl rfl (fun _ => rfl) (fun e16 (fe16 : e16 = x2 + 1) => ?_)
        refine wi_goto (nx := 69) (r1 := 10) (r2 := 0) (r3 := 0) rfl ?_
        refine wp.lo (lo := [(0, .ref 236), (1, vi a0), (2, vi e15), (3, vi 0), (4, vi 0), (5, vi e16)]) ⟨rfl, rfl, rfl, rfl, rfl, rfl, trivial⟩ rfl ?_
        exact I3 e15 e16 h ⟨rfl, (show (-2147483648 ≤ e15 ∧ e15 ≤ 2147483647) ∧ (0 ≤ e16 ∧ e16 ≤ 12) by omega)⟩ (show ((12 : Int) + 1 - e16).toNat < ((12 : Int) + 1 - x2).toNat by omega)
    ·
      refine wi_aload_n (i := 0) (x := 236) (nx := 26) (r1 := 0) (r2 := 0) (r3 := 0) rfl rfl ?_
      refine wi_iload (i := 5) (e := x2) (nx := 28) (r1 := 0) (r2 := 0) (r3 := 0) rfl rfl ?_
      refine wr_V (k0 := 236) (rest := []) (as := [.ref 236, vi x2]) (nx := 31) (r1 := 252) (r2 := 1) (r3 := 11) rfl rfl rfl (of_decide_eq_true rfl) rfl rfl (by decide) rfl rfl (of_decide_eq_true rfl) (of_decide_eq_true rfl) ?_
      refine ct_252_236 hcr  g x2 (by omega)  (fun z9  (fz9 : 0 ≤ z9 ∧ z9 ≤ 3) => ?_)
      refine wk_i ?_
      refine wi_iconst (n := 1) (nx := 32) (r1 := 0) (r2 := 0) (r3 := 0) rfl ?_
      refine wi_icmp (cd := .ne) (nx := 35) (r1 := 63) (r2 := 0) (r3 := 0) rfl (by omega) (by omega) (fun (q10 : z9 ≠ 1) => ?_) (fun (q10 : ¬ (z9 ≠ 1)) => ?_)
      ·
        refine wr_iinc (i := 5) (n := 1) (v := x2) (fun e11 => [(5, vi e11), (0, .ref 236), (1, vi a0), (2, vi x1), (3, vi 0), (4, vi 0)]) (nx := 66) (r1 := 0) (r2 := 0) (r3 := 0) rfl rfl (fun _ => rfl) (fun e11 (fe11 : e11 = x2 + 1) => ?_)
        refine wi_goto (nx := 69) (r1 := 10) (r2 := 0) (r3 := 0) rfl ?_
        refine wp.lo (lo := [(0, .ref 236), (1, vi a0), (2, vi x1), (3, vi 0), (4, vi 0), (5, vi e11)]) ⟨rfl, rfl, rfl, rfl, rfl, rfl, trivial⟩ rfl ?_
        exact I3 x1 e11 h ⟨rfl, (show (-2147483648 ≤ x1 ∧ x1 ≤ 2147483647) ∧ (0 ≤ e11 ∧ e11 ≤ 12) by omega)⟩ (show ((12 : Int) + 1 - e11).toNat < ((12 : Int) + 1 - x2).toNat by omega)
      ·
        refine wi_goto (nx := 38) (r1 := 48) (r2 := 0) (r3 := 0) rfl ?_
        refine wi_iload_n (i := 2) (e := x1) (nx := 49) (r1 := 0) (r2 := 0) (r3 := 0) rfl rfl ?_
        refine wi_iconst (n := 1) (nx := 50) (r1 := 0) (r2 := 0) (r3 := 0) rfl ?_
        refine wi_aload_n (i := 0) (x := 236) (nx := 51) (r1 := 0) (r2 := 0) (r3 := 0) rfl rfl ?_
        refine wr_gr (k0 := 236) (x := 238) (nx := 54) (r1 := 11) (r2 := 13) (r3 := 0) rfl rfl (by decide) rfl ⟨rfl, rfl⟩ rfl ?_
        refine wi_bipush (n := 31) (nx := 56) (r1 := 0) (r2 := 0) (r3 := 0) rfl (by decide) ?_
        refine wi_iload (i := 5) (e := x2) (nx := 58) (r1 := 0) (r2 := 0) (r3 := 0) rfl rfl ?_
        refine wr_add (nx := 59) (r1 := 0) (r2 := 0) (r3 := 0) rfl (fun e11 (fe11 : e11 = 31 + x2) => ?_)
        obtain ⟨i12, ei12⟩ : ∃ q : Nat, e11 = (q : Int) := ⟨(e11).toNat, by omega⟩
        have b13 := gi_b (lo := 0) (hi := 4) g 238 i12 (gi_rg 31 12 (fun _ => rfl) (by decide +kernel) (by omega))
        refine wr_ia (k0 := 238) (a := e11) (f := i12) (x := h 238 i12) (nx := 60) (r1 := 0) (r2 := 0) (r3 := 0) rfl (by decide) rfl (by omega) (by omega) (by decide) rfl ?_
        refine wr_ishl1 (y := h 238 i12) (nx := 61) (r1 := 0) (r2 := 0) (r3 := 0) rfl (by omega) (fun e14 (fe14 : 1 ≤ e14 ∧ e14 ≤ 4096) ve14 => ?_)
        refine wr_iorA (nx := 62) (r1 := 0) (r2 := 0) (r3 := 0) rfl (fun e15 (fe15 : -2147483648 ≤ e15 ∧ e15 ≤ 2147483647) => ?_)
        refine wi_istore_n (i := 2) (e := e15) (lo2 := [(2, vi e15), (0, .ref 236), (1, vi a0), (3, vi 0), (4, vi 0), (5, vi x2)]) (nx := 63) (r1 := 0) (r2 := 0) (r3 := 0) rfl rfl ?_
        refine wr_iinc (i := 5) (n := 1) (v := x2) (fun e16 => [(5, vi e16), (2, vi e15), (0, .ref 236), (1, vi a0), (3, vi 0), (4, vi 0)]) (nx := 66) (r1 := 0) (r2 := 0) (r3 := 0) rfl rfl (fun _ => rfl) (fun e16 (fe16 : e16 = x2 + 1) => ?_)
        refine wi_goto (nx := 69) (r1 := 10) (r2 := 0) (r3 := 0) rfl ?_
        refine wp.lo (lo := [(0, .ref 236), (1, vi a0), (2, vi e15), (3, vi 0), (4, vi 0), (5, vi e16)]) ⟨rfl, rfl, rfl, rfl, rfl, rfl, trivial⟩ rfl ?_
        exact I3 e15 e16 h ⟨rfl, (show (-2147483648 ≤ e15 ∧ e15 ≤ 2147483647) ∧ (0 ≤ e16 ∧ e16 ≤ 12) by omega)⟩ (show ((12 : Int) + 1 - e16).toNat < ((12 : Int) + 1 - x2).toNat by omega)
-- method 319: Model.bound()I
set_option maxRecDepth 100000 in
set_option maxHeartbeats 100000000 in
theorem ct_319_236 {L : Nat} {xs : Nat → Int32} {d b c : Nat} {h : hp} {cr : Nat → Nat → Option Nat} {Q : hp_Q} (hcr : CR cr)  (g : GI h)    (k : ∀ (h2 : hp) (z0 : Int) , GI h2 → FR [(236, 236, some (0, 0))] h h2 → (-2147483648 ≤ z0 ∧ z0 ≤ 2147483647) → Q (.inl (some (vi z0))) (hp_w h2 cr) b c) : wp (md_xa (L, xs)) (d + 4) 319 (0, [(0, .ref 236)], [], hp_w h cr, b, c) Q := by
  have F0 : FR [(236, 236, some (0, 0))] h h := FR.refl
  refine wi_aload_n (i := 0) (x := 236) (nx := 1) (r1 := 0) (r2 := 0) (r3 := 0) rfl rfl ?_
  refine wi_iconst (n := 0) (nx := 2) (r1 := 0) (r2 := 0) (r3 := 0) rfl ?_
  refine wr_pf0 (k0 := 236) (x := 0) (bl := 0) (bh := 2) (nx := 5) (r1 := 11) (r2 := 0) (r3 := 0) rfl (by decide) rfl ⟨rfl, rfl⟩ rfl rfl g rfl (by omega) (fun h1 g1 w1 u1 => ?_)
  have F2 := F0.then rfl u1
  refine wi_aload_n (i := 0) (x := 236) (nx := 6) (r1 := 0) (r2 := 0) (r3 := 0) rfl rfl ?_
  refine wi_iconst (n := 0) (nx := 7) (r1 := 0) (r2 := 0) (r3 := 0) rfl ?_
  refine wr_V (k0 := 236) (rest := []) (as := [.ref 236, vi 0]) (nx := 10) (r1 := 317) (r2 := 1) (r3 := 11) rfl rfl rfl (of_decide_eq_true rfl) rfl rfl (by decide) rfl rfl (of_decide_eq_true rfl) (of_decide_eq_true rfl) ?_
  refine ct_317_236 hcr  g1 0 (by omega)  (fun z4  (fz4 : -2147483648 ≤ z4 ∧ z4 ≤ 2147483647) => ?_)
  refine wk_i ?_
  refine wi_ireturn (nx := 11) (r1 := 0) (r2 := 0) (r3 := 0) rfl rfl ?_
  exact k h1 z4 g1 F2 (by omega)
-- method 267: Model.mayLeave(I)Z
set_option maxRecDepth 100000 in
set_option maxHeartbeats 100000000 in
theorem ct_267_236_L0 {L : Nat} {xs : Nat → Int32} {d b c : Nat} {h : hp} {cr : Nat → Nat → Option Nat} {Q : hp_Q} (hcr : CR cr)  (g : GI h)    (k : ∀ (z0 : Int), (0 ≤ z0 ∧ z0 ≤ 1) → (z0 = 0 ∨ 1 ≤ h 238 98) → (z0 = 0 ∨ h 238 67 ≤ 9998) → (z0 = 0 ∨ (1 ≤ h 238 (43 + (h 238 74).toNat) ∧ h 238 102 < h 238 7) ∨ (h 238 (43 + (h 238 74).toNat) ≤ 0 ∧ h 238 74 - h 238 106 ≤ h 238 3)) → (mlP (h 238) 0 z0) → Q (.inl (some (vi z0))) (hp_w h cr) b c) : wp (md_xa (L, xs)) (d + 1) 267 (0, [(0, .ref 236), (1, vi 0)], [], hp_w h cr, b, c) Q := by
  have F0 : FR [] h h := FR.refl
  refine wi_aload_n (i := 0) (x := 236) (nx := 1) (r1 := 0) (r2 := 0) (r3 := 0) rfl rfl ?_
  refine wr_gr (k0 := 236) (x := 238) (nx := 4) (r1 := 11) (r2 := 13) (r3 := 0) rfl rfl (by decide) rfl ⟨rfl, rfl⟩ rfl ?_
  refine wi_bipush (n := 98) (nx := 6) (r1 := 0) (r2 := 0) (r3 := 0) rfl (by decide) ?_
  refine wi_iload_n (i := 1) (e := 0) (nx := 7) (r1 := 0) (r2 := 0) (r3 := 0) rfl rfl ?_
  refine wr_addL (98) (nx := 8) (r1 := 0) (r2 := 0) (r3 := 0) rfl (by decide) ?_
  have b1 := gi_b (lo := 0) (hi := 6) g 238 98 rfl
  refine wr_ia (k0 := 238) (a := 98) (f := 98) (x := h 238 98) (nx := 9) (r1 := 0) (r2 := 0) (r3 := 0) rfl (by decide) rfl (by omega) (by omega) (by decide) rfl ?_
  refine wi_if (cd := .eq) (nx := 12) (r1 := 25) (r2 := 0) (r3 := 0) rfl (by omega) (fun (q2 : (h 238 98) = 0) => ?_) (fun (q2 : ¬ ((h 238 98) = 0)) => ?_)
  ·
    refine wi_iconst (n := 0) (nx := 26) (r1 := 0) (r2 := 0) (r3 := 0) rfl ?_
    refine wi_zreturn (nx := 27) (r1 := 0) (r2 := 0) (r3 := 0) rfl rfl (by omega) ?_
    have b3 := gi_b (lo := 0) (hi := 9999) g 238 67 rfl
    have b4 := gi_b (lo := 0) (hi := 11) g 238 74 rfl
    obtain ⟨i5, ei5⟩ : ∃ q : Nat, (43 + h 238 74) = (q : Int) := ⟨(43 + h 238 74).toNat, by omega⟩
    have b6 := gi_b (lo := 0) (hi := 999) g 238 i5 (gi_rg 43 12 (fun _ => rfl) (by decide +kernel) (by omega))
    have e7 : h 238 (43 + (h 238 74).toNat) = h 238 i5 := by rw [show 43 + (h 238 74).toNat = i5 by omega]
    have b8 := gi_b (lo := 0) (hi := 3) g 238 102 rfl
    have b9 := gi_b (lo := 0) (hi := 3) g 238 7 rfl
    have b10 := gi_b (lo := 0) (hi := 12) g 238 106 rfl
    have b11 := gi_b (lo := 0) (hi := 999) g 238 3 rfl
    exact k 0 (by omega) (show 0 = 0 ∨ 1 ≤ (h 238 98) by omega) (show 0 = 0 ∨ (h 238 67) ≤ 9998 by omega) (show 0 = 0 ∨ (1 ≤ (h 238 (43 + (h 238 74).toNat)) ∧ (h 238 102) < (h 238 7)) ∨ ((h 238 (43 + (h 238 74).toNat)) ≤ 0 ∧ (h 238 74) - (h 238 106) ≤ (h 238 3)) by omega) (Or.inr ⟨rfl, fun c => by
        have c2 : 1 ≤ h 238 98 := c.1
        have c3 : h 238 67 ≤ 9998 := c.2.1
        have c4 : ((1 ≤ h 238 (43 + (h 238 74).toNat) ∧ h 238 102 < h 238 7) ∨ (h 238 (43 + (h 238 74).toNat) ≤ 0 ∧ h 238 74 - h 238 106 ≤ h 238 3)) := c.2.2
        rw [show 43 + (h 238 74).toNat = i5 by omega] at c4
        omega⟩)
  ·
    refine wi_aload_n (i := 0) (x := 236) (nx := 13) (r1 := 0) (r2 := 0) (r3 := 0) rfl rfl ?_
    refine wr_gr (k0 := 236) (x := 238) (nx := 16) (r1 := 11) (r2 := 13) (r3 := 0) rfl rfl (by decide) rfl ⟨rfl, rfl⟩ rfl ?_
    refine wi_bipush (n := 67) (nx := 18) (r1 := 0) (r2 := 0) (r3 := 0) rfl (by decide) ?_
    have b3 := gi_b (lo := 0) (hi := 9999) g 238 67 rfl
    refine wr_ia (k0 := 238) (a := 67) (f := 67) (x := h 238 67) (nx := 19) (r1 := 0) (r2 := 0) (r3 := 0) rfl (by decide) rfl (by omega) (by omega) (by decide) rfl ?_
    refine wi_sipush (n := 9999) (nx := 22) (r1 := 0) (r2 := 0) (r3 := 0) rfl (by decide) ?_
    refine wi_icmp (cd := .ne) (nx := 25) (r1 := 27) (r2 := 0) (r3 := 0) rfl (by omega) (by omega) (fun (q4 : (h 238 67) ≠ 9999) => ?_) (fun (q4 : ¬ ((h 238 67) ≠ 9999)) => ?_)
    ·
      refine wi_aload_n (i := 0) (x := 236) (nx := 28) (r1 := 0) (r2 := 0) (r3 := 0) rfl rfl ?_
      refine wi_iload_n (i := 1) (e := 0) (nx := 29) (r1 := 0) (r2 := 0) (r3 := 0) rfl rfl ?_
      refine wi_iconst (n := 0) (nx := 30) (r1 := 0) (r2 := 0) (r3 := 0) rfl ?_
      refine wr_V (k0 := 236) (rest := []) (as := [.ref 236, vi 0, vi 0]) (nx := 33) (r1 := 258) (r2 := 2) (r3 := 11) rfl rfl rfl (of_decide_eq_true rfl) rfl rfl (by decide) rfl rfl (of_decide_eq_true rfl) (of_decide_eq_true rfl) ?_
      refine wi_aload_n (i := 0) (x := 236) (nx := 1) (r1 := 0) (r2 := 0) (r3 := 0) rfl rfl ?_
      refine wr_gr (k0 := 236) (x := 238) (nx := 4) (r1 := 11) (r2 := 13) (r3 := 0) rfl rfl (by decide) rfl ⟨rfl, rfl⟩ rfl ?_
      refine wi_bipush (n := 74) (nx := 6) (r1 := 0) (r2 := 0) (r3 := 0) rfl (by decide) ?_
      refine wi_bipush (n := 6) (nx := 8) (r1 := 0) (r2 := 0) (r3 := 0) rfl (by decide) ?_
      refine wi_iload_n (i := 1) (e := 0) (nx := 9) (r1 := 0) (r2 := 0) (r3 := 0) rfl rfl ?_
      refine wr_mulL (0) (nx := 10) (r1 := 0) (r2 := 0) (r3 := 0) rfl (by decide) ?_
      refine wr_addL (74) (nx := 11) (r1 := 0) (r2 := 0) (r3 := 0) rfl (by decide) ?_
      refine wi_iload_n (i := 2) (e := 0) (nx := 12) (r1 := 0) (r2 := 0) (r3 := 0) rfl rfl ?_
      refine wr_addL (74) (nx := 13) (r1 := 0) (r2 := 0) (r3 := 0) rfl (by decide) ?_
      have b5 := gi_b (lo := 0) (hi := 11) g 238 74 rfl
      refine wr_ia (k0 := 238) (a := 74) (f := 74) (x := h 238 74) (nx := 14) (r1 := 0) (r2 := 0) (r3 := 0) rfl (by decide) rfl (by omega) (by omega) (by decide) rfl ?_
      refine wi_ireturn (nx := 15) (r1 := 0) (r2 := 0) (r3 := 0) rfl rfl ?_
      refine wk_i ?_
      refine wi_istore_n (i := 2) (e := h 238 74) (lo2 := [(2, vi (h 238 74)), (0, .ref 236), (1, vi 0)]) (nx := 34) (r1 := 0) (r2 := 0) (r3 := 0) rfl rfl ?_
      refine wi_aload_n (i := 0) (x := 236) (nx := 35) (r1 := 0) (r2 := 0) (r3 := 0) rfl rfl ?_
      refine wr_gr (k0 := 236) (x := 238) (nx := 38) (r1 := 11) (r2 := 13) (r3 := 0) rfl rfl (by decide) rfl ⟨rfl, rfl⟩ rfl ?_
      refine wi_bipush (n := 43) (nx := 40) (r1 := 0) (r2 := 0) (r3 := 0) rfl (by decide) ?_
      refine wi_iload_n (i := 2) (e := h 238 74) (nx := 41) (r1 := 0) (r2 := 0) (r3 := 0) rfl rfl ?_
      refine wr_add (nx := 42) (r1 := 0) (r2 := 0) (r3 := 0) rfl (fun e6 (fe6 : e6 = 43 + (h 238 74)) => ?_)
      obtain ⟨i7, ei7⟩ : ∃ q : Nat, e6 = (q : Int) := ⟨(e6).toNat, by omega⟩
      have b8 := gi_b (lo := 0) (hi := 999) g 238 i7 (gi_rg 43 12 (fun _ => rfl) (by decide +kernel) (by omega))
      refine wr_ia (k0 := 238) (a := e6) (f := i7) (x := h 238 i7) (nx := 43) (r1 := 0) (r2 := 0) (r3 := 0) rfl (by decide) rfl (by omega) (by omega) (by decide) rfl ?_
      refine wi_if (cd := .le) (nx := 46) (r1 := 71) (r2 := 0) (r3 := 0) rfl (by omega) (fun (q9 : (h 238 i7) ≤ 0) => ?_) (fun (q9 : ¬ ((h 238 i7) ≤ 0)) => ?_)
      ·
        refine wi_iload_n (i := 2) (e := h 238 74) (nx := 72) (r1 := 0) (r2 := 0) (r3 := 0) rfl rfl ?_
        refine wi_aload_n (i := 0) (x := 236) (nx := 73) (r1 := 0) (r2 := 0) (r3 := 0) rfl rfl ?_
        refine wr_gr (k0 := 236) (x := 238) (nx := 76) (r1 := 11) (r2 := 13) (r3 := 0) rfl rfl (by decide) rfl ⟨rfl, rfl⟩ rfl ?_
        refine wi_bipush (n := 106) (nx := 78) (r1 := 0) (r2 := 0) (r3 := 0) rfl (by decide) ?_
        have b10 := gi_b (lo := 0) (hi := 12) g 238 106 rfl
        refine wr_ia (k0 := 238) (a := 106) (f := 106) (x := h 238 106) (nx := 79) (r1 := 0) (r2 := 0) (r3 := 0) rfl (by decide) rfl (by omega) (by omega) (by decide) rfl ?_
        refine wr_sub (nx := 80) (r1 := 0) (r2 := 0) (r3 := 0) rfl (fun e11 (fe11 : e11 = (h 238 74) - (h 238 106)) => ?_)
        refine wi_aload_n (i := 0) (x := 236) (nx := 81) (r1 := 0) (r2 := 0) (r3 := 0) rfl rfl ?_
        refine wr_gr (k0 := 236) (x := 238) (nx := 84) (r1 := 11) (r2 := 13) (r3 := 0) rfl rfl (by decide) rfl ⟨rfl, rfl⟩ rfl ?_
        refine wi_iconst (n := 3) (nx := 85) (r1 := 0) (r2 := 0) (r3 := 0) rfl ?_
        have b12 := gi_b (lo := 0) (hi := 999) g 238 3 rfl
        refine wr_ia (k0 := 238) (a := 3) (f := 3) (x := h 238 3) (nx := 86) (r1 := 0) (r2 := 0) (r3 := 0) rfl (by decide) rfl (by omega) (by omega) (by decide) rfl ?_
        refine wi_icmp (cd := .gt) (nx := 89) (r1 := 93) (r2 := 0) (r3 := 0) rfl (by omega) (by omega) (fun (q13 : (h 238 3) < e11) => ?_) (fun (q13 : ¬ ((h 238 3) < e11)) => ?_)
        ·
          refine wi_iconst (n := 0) (nx := 94) (r1 := 0) (r2 := 0) (r3 := 0) rfl ?_
          refine wi_zreturn (nx := 95) (r1 := 0) (r2 := 0) (r3 := 0) rfl rfl (by omega) ?_
          have e14 : h 238 (43 + (h 238 74).toNat) = h 238 i7 := by rw [show 43 + (h 238 74).toNat = i7 by omega]
          have b15 := gi_b (lo := 0) (hi := 3) g 238 102 rfl
          have b16 := gi_b (lo := 0) (hi := 3) g 238 7 rfl
          exact k 0 (by omega) (show 0 = 0 ∨ 1 ≤ (h 238 98) by omega) (show 0 = 0 ∨ (h 238 67) ≤ 9998 by omega) (show 0 = 0 ∨ (1 ≤ (h 238 (43 + (h 238 74).toNat)) ∧ (h 238 102) < (h 238 7)) ∨ ((h 238 (43 + (h 238 74).toNat)) ≤ 0 ∧ (h 238 74) - (h 238 106) ≤ (h 238 3)) by omega) (Or.inr ⟨rfl, fun c => by
              have c2 : 1 ≤ h 238 98 := c.1
              have c3 : h 238 67 ≤ 9998 := c.2.1
              have c4 : ((1 ≤ h 238 (43 + (h 238 74).toNat) ∧ h 238 102 < h 238 7) ∨ (h 238 (43 + (h 238 74).toNat) ≤ 0 ∧ h 238 74 - h 238 106 ≤ h 238 3)) := c.2.2
              rw [show 43 + (h 238 74).toNat = i7 by omega] at c4
              omega⟩)
        ·
          refine wi_iconst (n := 1) (nx := 90) (r1 := 0) (r2 := 0) (r3 := 0) rfl ?_
          refine wi_goto (nx := 93) (r1 := 94) (r2 := 0) (r3 := 0) rfl ?_
          refine wi_zreturn (nx := 95) (r1 := 0) (r2 := 0) (r3 := 0) rfl rfl (by omega) ?_
          have e14 : h 238 (43 + (h 238 74).toNat) = h 238 i7 := by rw [show 43 + (h 238 74).toNat = i7 by omega]
          have b15 := gi_b (lo := 0) (hi := 3) g 238 102 rfl
          have b16 := gi_b (lo := 0) (hi := 3) g 238 7 rfl
          exact k 1 (by omega) (show 1 = 0 ∨ 1 ≤ (h 238 98) by omega) (show 1 = 0 ∨ (h 238 67) ≤ 9998 by omega) (show 1 = 0 ∨ (1 ≤ (h 238 (43 + (h 238 74).toNat)) ∧ (h 238 102) < (h 238 7)) ∨ ((h 238 (43 + (h 238 74).toNat)) ≤ 0 ∧ (h 238 74) - (h 238 106) ≤ (h 238 3)) by omega) (Or.inl ⟨rfl, (show 1 ≤ h 238 98 by omega), (show h 238 67 ≤ 9998 by omega), (show ((1 ≤ h 238 (43 + (h 238 74).toNat) ∧ h 238 102 < h 238 7) ∨ (h 238 (43 + (h 238 74).toNat) ≤ 0 ∧ h 238 74 - h 238 106 ≤ h 238 3)) by rw [show 43 + (h 238 74).toNat = i7 by omega]; omega)⟩)
      ·
        refine wi_aload_n (i := 0) (x := 236) (nx := 47) (r1 := 0) (r2 := 0) (r3 := 0) rfl rfl ?_
        refine wr_gr (k0 := 236) (x := 238) (nx := 50) (r1 := 11) (r2 := 13) (r3 := 0) rfl rfl (by decide) rfl ⟨rfl, rfl⟩ rfl ?_
        refine wi_bipush (n := 102) (nx := 52) (r1 := 0) (r2 := 0) (r3 := 0) rfl (by decide) ?_
        have b10 := gi_b (lo := 0) (hi := 3) g 238 102 rfl
        refine wr_ia (k0 := 238) (a := 102) (f := 102) (x := h 238 102) (nx := 53) (r1 := 0) (r2 := 0) (r3 := 0) rfl (by decide) rfl (by omega) (by omega) (by decide) rfl ?_
        refine wi_aload_n (i := 0) (x := 236) (nx := 54) (r1 := 0) (r2 := 0) (r3 := 0) rfl rfl ?_
        refine wr_gr (k0 := 236) (x := 238) (nx := 57) (r1 := 11) (r2 := 13) (r3 := 0) rfl rfl (by decide) rfl ⟨rfl, rfl⟩ rfl ?_
        refine wi_bipush (n := 7) (nx := 59) (r1 := 0) (r2 := 0) (r3 := 0) rfl (by decide) ?_
        have b11 := gi_b (lo := 0) (hi := 3) g 238 7 rfl
        refine wr_ia (k0 := 238) (a := 7) (f := 7) (x := h 238 7) (nx := 60) (r1 := 0) (r2 := 0) (r3 := 0) rfl (by decide) rfl (by omega) (by omega) (by decide) rfl ?_
        refine wi_icmp (cd := .ge) (nx := 63) (r1 := 67) (r2 := 0) (r3 := 0) rfl (by omega) (by omega) (fun (q12 : (h 238 7) ≤ (h 238 102)) => ?_) (fun (q12 : ¬ ((h 238 7) ≤ (h 238 102))) => ?_)
        ·
          refine wi_iconst (n := 0) (nx := 68) (r1 := 0) (r2 := 0) (r3 := 0) rfl ?_
          refine wi_goto (nx := 71) (r1 := 94) (r2 := 0) (r3 := 0) rfl ?_
          refine wi_zreturn (nx := 95) (r1 := 0) (r2 := 0) (r3 := 0) rfl rfl (by omega) ?_
          have e13 : h 238 (43 + (h 238 74).toNat) = h 238 i7 := by rw [show 43 + (h 238 74).toNat = i7 by omega]
          have b14 := gi_b (lo := 0) (hi := 12) g 238 106 rfl
          have b15 := gi_b (lo := 0) (hi := 999) g 238 3 rfl
          exact k 0 (by omega) (show 0 = 0 ∨ 1 ≤ (h 238 98) by omega) (show 0 = 0 ∨ (h 238 67) ≤ 9998 by omega) (show 0 = 0 ∨ (1 ≤ (h 238 (43 + (h 238 74).toNat)) ∧ (h 238 102) < (h 238 7)) ∨ ((h 238 (43 + (h 238 74).toNat)) ≤ 0 ∧ (h 238 74) - (h 238 106) ≤ (h 238 3)) by omega) (Or.inr ⟨rfl, fun c => by
              have c2 : 1 ≤ h 238 98 := c.1
              have c3 : h 238 67 ≤ 9998 := c.2.1
              have c4 : ((1 ≤ h 238 (43 + (h 238 74).toNat) ∧ h 238 102 < h 238 7) ∨ (h 238 (43 + (h 238 74).toNat) ≤ 0 ∧ h 238 74 - h 238 106 ≤ h 238 3)) := c.2.2
              rw [show 43 + (h 238 74).toNat = i7 by omega] at c4
              omega⟩)
        ·
          refine wi_iconst (n := 1) (nx := 64) (r1 := 0) (r2 := 0) (r3 := 0) rfl ?_
          refine wi_goto (nx := 67) (r1 := 94) (r2 := 0) (r3 := 0) rfl ?_
          refine wi_zreturn (nx := 95) (r1 := 0) (r2 := 0) (r3 := 0) rfl rfl (by omega) ?_
          have e13 : h 238 (43 + (h 238 74).toNat) = h 238 i7 := by rw [show 43 + (h 238 74).toNat = i7 by omega]
          have b14 := gi_b (lo := 0) (hi := 12) g 238 106 rfl
          have b15 := gi_b (lo := 0) (hi := 999) g 238 3 rfl
          exact k 1 (by omega) (show 1 = 0 ∨ 1 ≤ (h 238 98) by omega) (show 1 = 0 ∨ (h 238 67) ≤ 9998 by omega) (show 1 = 0 ∨ (1 ≤ (h 238 (43 + (h 238 74).toNat)) ∧ (h 238 102) < (h 238 7)) ∨ ((h 238 (43 + (h 238 74).toNat)) ≤ 0 ∧ (h 238 74) - (h 238 106) ≤ (h 238 3)) by omega) (Or.inl ⟨rfl, (show 1 ≤ h 238 98 by omega), (show h 238 67 ≤ 9998 by omega), (show ((1 ≤ h 238 (43 + (h 238 74).toNat) ∧ h 238 102 < h 238 7) ∨ (h 238 (43 + (h 238 74).toNat) ≤ 0 ∧ h 238 74 - h 238 106 ≤ h 238 3)) by rw [show 43 + (h 238 74).toNat = i7 by omega]; omega)⟩)
    ·
      refine wi_iconst (n := 0) (nx := 26) (r1 := 0) (r2 := 0) (r3 := 0) rfl ?_
      refine wi_zreturn (nx := 27) (r1 := 0) (r2 := 0) (r3 := 0) rfl rfl (by omega) ?_
      have b5 := gi_b (lo := 0) (hi := 11) g 238 74 rfl
      obtain ⟨i6, ei6⟩ : ∃ q : Nat, (43 + h 238 74) = (q : Int) := ⟨(43 + h 238 74).toNat, by omega⟩
      have b7 := gi_b (lo := 0) (hi := 999) g 238 i6 (gi_rg 43 12 (fun _ => rfl) (by decide +kernel) (by omega))
      have e8 : h 238 (43 + (h 238 74).toNat) = h 238 i6 := by rw [show 43 + (h 238 74).toNat = i6 by omega]
      have b9 := gi_b (lo := 0) (hi := 3) g 238 102 rfl
      have b10 := gi_b (lo := 0) (hi := 3) g 238 7 rfl
      have b11 := gi_b (lo := 0) (hi := 12) g 238 106 rfl
      have b12 := gi_b (lo := 0) (hi := 999) g 238 3 rfl
      exact k 0 (by omega) (show 0 = 0 ∨ 1 ≤ (h 238 98) by omega) (show 0 = 0 ∨ (h 238 67) ≤ 9998 by omega) (show 0 = 0 ∨ (1 ≤ (h 238 (43 + (h 238 74).toNat)) ∧ (h 238 102) < (h 238 7)) ∨ ((h 238 (43 + (h 238 74).toNat)) ≤ 0 ∧ (h 238 74) - (h 238 106) ≤ (h 238 3)) by omega) (Or.inr ⟨rfl, fun c => by
          have c2 : 1 ≤ h 238 98 := c.1
          have c3 : h 238 67 ≤ 9998 := c.2.1
          have c4 : ((1 ≤ h 238 (43 + (h 238 74).toNat) ∧ h 238 102 < h 238 7) ∨ (h 238 (43 + (h 238 74).toNat) ≤ 0 ∧ h 238 74 - h 238 106 ≤ h 238 3)) := c.2.2
          rw [show 43 + (h 238 74).toNat = i6 by omega] at c4
          omega⟩)
-- method 267: Model.mayLeave(I)Z
set_option maxRecDepth 100000 in
set_option maxHeartbeats 100000000 in
theorem ct_267_236_L1 {L : Nat} {xs : Nat → Int32} {d b c : Nat} {h : hp} {cr : Nat → Nat → Option Nat} {Q : hp_Q} (hcr : CR cr)  (g : GI h)    (k : ∀ (z0 : Int), (0 ≤ z0 ∧ z0 ≤ 1) → (z0 = 0 ∨ 1 ≤ h 238 99) → (z0 = 0 ∨ h 238 67 ≤ 9998) → (z0 = 0 ∨ (1 ≤ h 238 (43 + (h 238 80).toNat) ∧ h 238 102 < h 238 7) ∨ (h 238 (43 + (h 238 80).toNat) ≤ 0 ∧ h 238 80 - h 238 106 ≤ h 238 3)) → (mlP (h 238) 1 z0) → Q (.inl (some (vi z0))) (hp_w h cr) b c) : wp (md_xa (L, xs)) (d + 1) 267 (0, [(0, .ref 236), (1, vi 1)], [], hp_w h cr, b, c) Q := by
  have F0 : FR [] h h := FR.refl
  refine wi_aload_n (i := 0) (x := 236) (nx := 1) (r1 := 0) (r2 := 0) (r3 := 0) rfl rfl ?_
  refine wr_gr (k0 := 236) (x := 238) (nx := 4) (r1 := 11) (r2 := 13) (r3 := 0) rfl rfl (by decide) rfl ⟨rfl, rfl⟩ rfl ?_
  refine wi_bipush (n := 98) (nx := 6) (r1 := 0) (r2 := 0) (r3 := 0) rfl (by decide) ?_
  refine wi_iload_n (i := 1) (e := 1) (nx := 7) (r1 := 0) (r2 := 0) (r3 := 0) rfl rfl ?_
  refine wr_addL (99) (nx := 8) (r1 := 0) (r2 := 0) (r3 := 0) rfl (by decide) ?_
  have b1 := gi_b (lo := 0) (hi := 6) g 238 99 rfl
  refine wr_ia (k0 := 238) (a := 99) (f := 99) (x := h 238 99) (nx := 9) (r1 := 0) (r2 := 0) (r3 := 0) rfl (by decide) rfl (by omega) (by omega) (by decide) rfl ?_
  refine wi_if (cd := .eq) (nx := 12) (r1 := 25) (r2 := 0) (r3 := 0) rfl (by omega) (fun (q2 : (h 238 99) = 0) => ?_) (fun (q2 : ¬ ((h 238 99) = 0)) => ?_)
  ·
    refine wi_iconst (n := 0) (nx := 26) (r1 := 0) (r2 := 0) (r3 := 0) rfl ?_
    refine wi_zreturn (nx := 27) (r1 := 0) (r2 := 0) (r3 := 0) rfl rfl (by omega) ?_
    have b3 := gi_b (lo := 0) (hi := 9999) g 238 67 rfl
    have b4 := gi_b (lo := 0) (hi := 11) g 238 80 rfl
    obtain ⟨i5, ei5⟩ : ∃ q : Nat, (43 + h 238 80) = (q : Int) := ⟨(43 + h 238 80).toNat, by omega⟩
    have b6 := gi_b (lo := 0) (hi := 999) g 238 i5 (gi_rg 43 12 (fun _ => rfl) (by decide +kernel) (by omega))
    have e7 : h 238 (43 + (h 238 80).toNat) = h 238 i5 := by rw [show 43 + (h 238 80).toNat = i5 by omega]
    have b8 := gi_b (lo := 0) (hi := 3) g 238 102 rfl
    have b9 := gi_b (lo := 0) (hi := 3) g 238 7 rfl
    have b10 := gi_b (lo := 0) (hi := 12) g 238 106 rfl
    have b11 := gi_b (lo := 0) (hi := 999) g 238 3 rfl
    exact k 0 (by omega) (show 0 = 0 ∨ 1 ≤ (h 238 99) by omega) (show 0 = 0 ∨ (h 238 67) ≤ 9998 by omega) (show 0 = 0 ∨ (1 ≤ (h 238 (43 + (h 238 80).toNat)) ∧ (h 238 102) < (h 238 7)) ∨ ((h 238 (43 + (h 238 80).toNat)) ≤ 0 ∧ (h 238 80) - (h 238 106) ≤ (h 238 3)) by omega) (Or.inr ⟨rfl, fun c => by
        have c2 : 1 ≤ h 238 99 := c.1
        have c3 : h 238 67 ≤ 9998 := c.2.1
        have c4 : ((1 ≤ h 238 (43 + (h 238 80).toNat) ∧ h 238 102 < h 238 7) ∨ (h 238 (43 + (h 238 80).toNat) ≤ 0 ∧ h 238 80 - h 238 106 ≤ h 238 3)) := c.2.2
        rw [show 43 + (h 238 80).toNat = i5 by omega] at c4
        omega⟩)
  ·
    refine wi_aload_n (i := 0) (x := 236) (nx := 13) (r1 := 0) (r2 := 0) (r3 := 0) rfl rfl ?_
    refine wr_gr (k0 := 236) (x := 238) (nx := 16) (r1 := 11) (r2 := 13) (r3 := 0) rfl rfl (by decide) rfl ⟨rfl, rfl⟩ rfl ?_
    refine wi_bipush (n := 67) (nx := 18) (r1 := 0) (r2 := 0) (r3 := 0) rfl (by decide) ?_
    have b3 := gi_b (lo := 0) (hi := 9999) g 238 67 rfl
    refine wr_ia (k0 := 238) (a := 67) (f := 67) (x := h 238 67) (nx := 19) (r1 := 0) (r2 := 0) (r3 := 0) rfl (by decide) rfl (by omega) (by omega) (by decide) rfl ?_
    refine wi_sipush (n := 9999) (nx := 22) (r1 := 0) (r2 := 0) (r3 := 0) rfl (by decide) ?_
    refine wi_icmp (cd := .ne) (nx := 25) (r1 := 27) (r2 := 0) (r3 := 0) rfl (by omega) (by omega) (fun (q4 : (h 238 67) ≠ 9999) => ?_) (fun (q4 : ¬ ((h 238 67) ≠ 9999)) => ?_)
    ·
      refine wi_aload_n (i := 0) (x := 236) (nx := 28) (r1 := 0) (r2 := 0) (r3 := 0) rfl rfl ?_
      refine wi_iload_n (i := 1) (e := 1) (nx := 29) (r1 := 0) (r2 := 0) (r3 := 0) rfl rfl ?_
      refine wi_iconst (n := 0) (nx := 30) (r1 := 0) (r2 := 0) (r3 := 0) rfl ?_
      refine wr_V (k0 := 236) (rest := []) (as := [.ref 236, vi 1, vi 0]) (nx := 33) (r1 := 258) (r2 := 2) (r3 := 11) rfl rfl rfl (of_decide_eq_true rfl) rfl rfl (by decide) rfl rfl (of_decide_eq_true rfl) (of_decide_eq_true rfl) ?_
      refine wi_aload_n (i := 0) (x := 236) (nx := 1) (r1 := 0) (r2 := 0) (r3 := 0) rfl rfl ?_
      refine wr_gr (k0 := 236) (x := 238) (nx := 4) (r1 := 11) (r2 := 13) (r3 := 0) rfl rfl (by decide) rfl ⟨rfl, rfl⟩ rfl ?_
      refine wi_bipush (n := 74) (nx := 6) (r1 := 0) (r2 := 0) (r3 := 0) rfl (by decide) ?_
      refine wi_bipush (n := 6) (nx := 8) (r1 := 0) (r2 := 0) (r3 := 0) rfl (by decide) ?_
      refine wi_iload_n (i := 1) (e := 1) (nx := 9) (r1 := 0) (r2 := 0) (r3 := 0) rfl rfl ?_
      refine wr_mulL (6) (nx := 10) (r1 := 0) (r2 := 0) (r3 := 0) rfl (by decide) ?_
      refine wr_addL (80) (nx := 11) (r1 := 0) (r2 := 0) (r3 := 0) rfl (by decide) ?_
      refine wi_iload_n (i := 2) (e := 0) (nx := 12) (r1 := 0) (r2 := 0) (r3 := 0) rfl rfl ?_
      refine wr_addL (80) (nx := 13) (r1 := 0) (r2 := 0) (r3 := 0) rfl (by decide) ?_
      have b5 := gi_b (lo := 0) (hi := 11) g 238 80 rfl
      refine wr_ia (k0 := 238) (a := 80) (f := 80) (x := h 238 80) (nx := 14) (r1 := 0) (r2 := 0) (r3 := 0) rfl (by decide) rfl (by omega) (by omega) (by decide) rfl ?_
      refine wi_ireturn (nx := 15) (r1 := 0) (r2 := 0) (r3 := 0) rfl rfl ?_
      refine wk_i ?_
      refine wi_istore_n (i := 2) (e := h 238 80) (lo2 := [(2, vi (h 238 80)), (0, .ref 236), (1, vi 1)]) (nx := 34) (r1 := 0) (r2 := 0) (r3 := 0) rfl rfl ?_
      refine wi_aload_n (i := 0) (x := 236) (nx := 35) (r1 := 0) (r2 := 0) (r3 := 0) rfl rfl ?_
      refine wr_gr (k0 := 236) (x := 238) (nx := 38) (r1 := 11) (r2 := 13) (r3 := 0) rfl rfl (by decide) rfl ⟨rfl, rfl⟩ rfl ?_
      refine wi_bipush (n := 43) (nx := 40) (r1 := 0) (r2 := 0) (r3 := 0) rfl (by decide) ?_
      refine wi_iload_n (i := 2) (e := h 238 80) (nx := 41) (r1 := 0) (r2 := 0) (r3 := 0) rfl rfl ?_
      refine wr_add (nx := 42) (r1 := 0) (r2 := 0) (r3 := 0) rfl (fun e6 (fe6 : e6 = 43 + (h 238 80)) => ?_)
      obtain ⟨i7, ei7⟩ : ∃ q : Nat, e6 = (q : Int) := ⟨(e6).toNat, by omega⟩
      have b8 := gi_b (lo := 0) (hi := 999) g 238 i7 (gi_rg 43 12 (fun _ => rfl) (by decide +kernel) (by omega))
      refine wr_ia (k0 := 238) (a := e6) (f := i7) (x := h 238 i7) (nx := 43) (r1 := 0) (r2 := 0) (r3 := 0) rfl (by decide) rfl (by omega) (by omega) (by decide) rfl ?_
      refine wi_if (cd := .le) (nx := 46) (r1 := 71) (r2 := 0) (r3 := 0) rfl (by omega) (fun (q9 : (h 238 i7) ≤ 0) => ?_) (fun (q9 : ¬ ((h 238 i7) ≤ 0)) => ?_)
      ·
        refine wi_iload_n (i := 2) (e := h 238 80) (nx := 72) (r1 := 0) (r2 := 0) (r3 := 0) rfl rfl ?_
        refine wi_aload_n (i := 0) (x := 236) (nx := 73) (r1 := 0) (r2 := 0) (r3 := 0) rfl rfl ?_
        refine wr_gr (k0 := 236) (x := 238) (nx := 76) (r1 := 11) (r2 := 13) (r3 := 0) rfl rfl (by decide) rfl ⟨rfl, rfl⟩ rfl ?_
        refine wi_bipush (n := 106) (nx := 78) (r1 := 0) (r2 := 0) (r3 := 0) rfl (by decide) ?_
        have b10 := gi_b (lo := 0) (hi := 12) g 238 106 rfl
        refine wr_ia (k0 := 238) (a := 106) (f := 106) (x := h 238 106) (nx := 79) (r1 := 0) (r2 := 0) (r3 := 0) rfl (by decide) rfl (by omega) (by omega) (by decide) rfl ?_
        refine wr_sub (nx := 80) (r1 := 0) (r2 := 0) (r3 := 0) rfl (fun e11 (fe11 : e11 = (h 238 80) - (h 238 106)) => ?_)
        refine wi_aload_n (i := 0) (x := 236) (nx := 81) (r1 := 0) (r2 := 0) (r3 := 0) rfl rfl ?_
        refine wr_gr (k0 := 236) (x := 238) (nx := 84) (r1 := 11) (r2 := 13) (r3 := 0) rfl rfl (by decide) rfl ⟨rfl, rfl⟩ rfl ?_
        refine wi_iconst (n := 3) (nx := 85) (r1 := 0) (r2 := 0) (r3 := 0) rfl ?_
        have b12 := gi_b (lo := 0) (hi := 999) g 238 3 rfl
        refine wr_ia (k0 := 238) (a := 3) (f := 3) (x := h 238 3) (nx := 86) (r1 := 0) (r2 := 0) (r3 := 0) rfl (by decide) rfl (by omega) (by omega) (by decide) rfl ?_
        refine wi_icmp (cd := .gt) (nx := 89) (r1 := 93) (r2 := 0) (r3 := 0) rfl (by omega) (by omega) (fun (q13 : (h 238 3) < e11) => ?_) (fun (q13 : ¬ ((h 238 3) < e11)) => ?_)
        ·
          refine wi_iconst (n := 0) (nx := 94) (r1 := 0) (r2 := 0) (r3 := 0) rfl ?_
          refine wi_zreturn (nx := 95) (r1 := 0) (r2 := 0) (r3 := 0) rfl rfl (by omega) ?_
          have e14 : h 238 (43 + (h 238 80).toNat) = h 238 i7 := by rw [show 43 + (h 238 80).toNat = i7 by omega]
          have b15 := gi_b (lo := 0) (hi := 3) g 238 102 rfl
          have b16 := gi_b (lo := 0) (hi := 3) g 238 7 rfl
          exact k 0 (by omega) (show 0 = 0 ∨ 1 ≤ (h 238 99) by omega) (show 0 = 0 ∨ (h 238 67) ≤ 9998 by omega) (show 0 = 0 ∨ (1 ≤ (h 238 (43 + (h 238 80).toNat)) ∧ (h 238 102) < (h 238 7)) ∨ ((h 238 (43 + (h 238 80).toNat)) ≤ 0 ∧ (h 238 80) - (h 238 106) ≤ (h 238 3)) by omega) (Or.inr ⟨rfl, fun c => by
              have c2 : 1 ≤ h 238 99 := c.1
              have c3 : h 238 67 ≤ 9998 := c.2.1
              have c4 : ((1 ≤ h 238 (43 + (h 238 80).toNat) ∧ h 238 102 < h 238 7) ∨ (h 238 (43 + (h 238 80).toNat) ≤ 0 ∧ h 238 80 - h 238 106 ≤ h 238 3)) := c.2.2
              rw [show 43 + (h 238 80).toNat = i7 by omega] at c4
              omega⟩)
        ·
          refine wi_iconst (n := 1) (nx := 90) (r1 := 0) (r2 := 0) (r3 := 0) rfl ?_
          refine wi_goto (nx := 93) (r1 := 94) (r2 := 0) (r3 := 0) rfl ?_
          refine wi_zreturn (nx := 95) (r1 := 0) (r2 := 0) (r3 := 0) rfl rfl (by omega) ?_
          have e14 : h 238 (43 + (h 238 80).toNat) = h 238 i7 := by rw [show 43 + (h 238 80).toNat = i7 by omega]
          have b15 := gi_b (lo := 0) (hi := 3) g 238 102 rfl
          have b16 := gi_b (lo := 0) (hi := 3) g 238 7 rfl
          exact k 1 (by omega) (show 1 = 0 ∨ 1 ≤ (h 238 99) by omega) (show 1 = 0 ∨ (h 238 67) ≤ 9998 by omega) (show 1 = 0 ∨ (1 ≤ (h 238 (43 + (h 238 80).toNat)) ∧ (h 238 102) < (h 238 7)) ∨ ((h 238 (43 + (h 238 80).toNat)) ≤ 0 ∧ (h 238 80) - (h 238 106) ≤ (h 238 3)) by omega) (Or.inl ⟨rfl, (show 1 ≤ h 238 99 by omega), (show h 238 67 ≤ 9998 by omega), (show ((1 ≤ h 238 (43 + (h 238 80).toNat) ∧ h 238 102 < h 238 7) ∨ (h 238 (43 + (h 238 80).toNat) ≤ 0 ∧ h 238 80 - h 238 106 ≤ h 238 3)) by rw [show 43 + (h 238 80).toNat = i7 by omega]; omega)⟩)
      ·
        refine wi_aload_n (i := 0) (x := 236) (nx := 47) (r1 := 0) (r2 := 0) (r3 := 0) rfl rfl ?_
        refine wr_gr (k0 := 236) (x := 238) (nx := 50) (r1 := 11) (r2 := 13) (r3 := 0) rfl rfl (by decide) rfl ⟨rfl, rfl⟩ rfl ?_
        refine wi_bipush (n := 102) (nx := 52) (r1 := 0) (r2 := 0) (r3 := 0) rfl (by decide) ?_
        have b10 := gi_b (lo := 0) (hi := 3) g 238 102 rfl
        refine wr_ia (k0 := 238) (a := 102) (f := 102) (x := h 238 102) (nx := 53) (r1 := 0) (r2 := 0) (r3 := 0) rfl (by decide) rfl (by omega) (by omega) (by decide) rfl ?_
        refine wi_aload_n (i := 0) (x := 236) (nx := 54) (r1 := 0) (r2 := 0) (r3 := 0) rfl rfl ?_
        refine wr_gr (k0 := 236) (x := 238) (nx := 57) (r1 := 11) (r2 := 13) (r3 := 0) rfl rfl (by decide) rfl ⟨rfl, rfl⟩ rfl ?_
        refine wi_bipush (n := 7) (nx := 59) (r1 := 0) (r2 := 0) (r3 := 0) rfl (by decide) ?_
        have b11 := gi_b (lo := 0) (hi := 3) g 238 7 rfl
        refine wr_ia (k0 := 238) (a := 7) (f := 7) (x := h 238 7) (nx := 60) (r1 := 0) (r2 := 0) (r3 := 0) rfl (by decide) rfl (by omega) (by omega) (by decide) rfl ?_
        refine wi_icmp (cd := .ge) (nx := 63) (r1 := 67) (r2 := 0) (r3 := 0) rfl (by omega) (by omega) (fun (q12 : (h 238 7) ≤ (h 238 102)) => ?_) (fun (q12 : ¬ ((h 238 7) ≤ (h 238 102))) => ?_)
        ·
          refine wi_iconst (n := 0) (nx := 68) (r1 := 0) (r2 := 0) (r3 := 0) rfl ?_
          refine wi_goto (nx := 71) (r1 := 94) (r2 := 0) (r3 := 0) rfl ?_
          refine wi_zreturn (nx := 95) (r1 := 0) (r2 := 0) (r3 := 0) rfl rfl (by omega) ?_
          have e13 : h 238 (43 + (h 238 80).toNat) = h 238 i7 := by rw [show 43 + (h 238 80).toNat = i7 by omega]
          have b14 := gi_b (lo := 0) (hi := 12) g 238 106 rfl
          have b15 := gi_b (lo := 0) (hi := 999) g 238 3 rfl
          exact k 0 (by omega) (show 0 = 0 ∨ 1 ≤ (h 238 99) by omega) (show 0 = 0 ∨ (h 238 67) ≤ 9998 by omega) (show 0 = 0 ∨ (1 ≤ (h 238 (43 + (h 238 80).toNat)) ∧ (h 238 102) < (h 238 7)) ∨ ((h 238 (43 + (h 238 80).toNat)) ≤ 0 ∧ (h 238 80) - (h 238 106) ≤ (h 238 3)) by omega) (Or.inr ⟨rfl, fun c => by
              have c2 : 1 ≤ h 238 99 := c.1
              have c3 : h 238 67 ≤ 9998 := c.2.1
              have c4 : ((1 ≤ h 238 (43 + (h 238 80).toNat) ∧ h 238 102 < h 238 7) ∨ (h 238 (43 + (h 238 80).toNat) ≤ 0 ∧ h 238 80 - h 238 106 ≤ h 238 3)) := c.2.2
              rw [show 43 + (h 238 80).toNat = i7 by omega] at c4
              omega⟩)
        ·
          refine wi_iconst (n := 1) (nx := 64) (r1 := 0) (r2 := 0) (r3 := 0) rfl ?_
          refine wi_goto (nx := 67) (r1 := 94) (r2 := 0) (r3 := 0) rfl ?_
          refine wi_zreturn (nx := 95) (r1 := 0) (r2 := 0) (r3 := 0) rfl rfl (by omega) ?_
          have e13 : h 238 (43 + (h 238 80).toNat) = h 238 i7 := by rw [show 43 + (h 238 80).toNat = i7 by omega]
          have b14 := gi_b (lo := 0) (hi := 12) g 238 106 rfl
          have b15 := gi_b (lo := 0) (hi := 999) g 238 3 rfl
          exact k 1 (by omega) (show 1 = 0 ∨ 1 ≤ (h 238 99) by omega) (show 1 = 0 ∨ (h 238 67) ≤ 9998 by omega) (show 1 = 0 ∨ (1 ≤ (h 238 (43 + (h 238 80).toNat)) ∧ (h 238 102) < (h 238 7)) ∨ ((h 238 (43 + (h 238 80).toNat)) ≤ 0 ∧ (h 238 80) - (h 238 106) ≤ (h 238 3)) by omega) (Or.inl ⟨rfl, (show 1 ≤ h 238 99 by omega), (show h 238 67 ≤ 9998 by omega), (show ((1 ≤ h 238 (43 + (h 238 80).toNat) ∧ h 238 102 < h 238 7) ∨ (h 238 (43 + (h 238 80).toNat) ≤ 0 ∧ h 238 80 - h 238 106 ≤ h 238 3)) by rw [show 43 + (h 238 80).toNat = i7 by omega]; omega)⟩)
    ·
      refine wi_iconst (n := 0) (nx := 26) (r1 := 0) (r2 := 0) (r3 := 0) rfl ?_
      refine wi_zreturn (nx := 27) (r1 := 0) (r2 := 0) (r3 := 0) rfl rfl (by omega) ?_
      have b5 := gi_b (lo := 0) (hi := 11) g 238 80 rfl
      obtain ⟨i6, ei6⟩ : ∃ q : Nat, (43 + h 238 80) = (q : Int) := ⟨(43 + h 238 80).toNat, by omega⟩
      have b7 := gi_b (lo := 0) (hi := 999) g 238 i6 (gi_rg 43 12 (fun _ => rfl) (by decide +kernel) (by omega))
      have e8 : h 238 (43 + (h 238 80).toNat) = h 238 i6 := by rw [show 43 + (h 238 80).toNat = i6 by omega]
      have b9 := gi_b (lo := 0) (hi := 3) g 238 102 rfl
      have b10 := gi_b (lo := 0) (hi := 3) g 238 7 rfl
      have b11 := gi_b (lo := 0) (hi := 12) g 238 106 rfl
      have b12 := gi_b (lo := 0) (hi := 999) g 238 3 rfl
      exact k 0 (by omega) (show 0 = 0 ∨ 1 ≤ (h 238 99) by omega) (show 0 = 0 ∨ (h 238 67) ≤ 9998 by omega) (show 0 = 0 ∨ (1 ≤ (h 238 (43 + (h 238 80).toNat)) ∧ (h 238 102) < (h 238 7)) ∨ ((h 238 (43 + (h 238 80).toNat)) ≤ 0 ∧ (h 238 80) - (h 238 106) ≤ (h 238 3)) by omega) (Or.inr ⟨rfl, fun c => by
          have c2 : 1 ≤ h 238 99 := c.1
          have c3 : h 238 67 ≤ 9998 := c.2.1
          have c4 : ((1 ≤ h 238 (43 + (h 238 80).toNat) ∧ h 238 102 < h 238 7) ∨ (h 238 (43 + (h 238 80).toNat) ≤ 0 ∧ h 238 80 - h 238 106 ≤ h 238 3)) := c.2.2
          rw [show 43 + (h 238 80).toNat = i6 by omega] at c4
          omega⟩)
-- method 267: Model.mayLeave(I)Z
set_option maxRecDepth 100000 in
set_option maxHeartbeats 100000000 in
theorem ct_267_236_L2 {L : Nat} {xs : Nat → Int32} {d b c : Nat} {h : hp} {cr : Nat → Nat → Option Nat} {Q : hp_Q} (hcr : CR cr)  (g : GI h)    (k : ∀ (z0 : Int), (0 ≤ z0 ∧ z0 ≤ 1) → (z0 = 0 ∨ 1 ≤ h 238 100) → (z0 = 0 ∨ h 238 67 ≤ 9998) → (z0 = 0 ∨ (1 ≤ h 238 (43 + (h 238 86).toNat) ∧ h 238 102 < h 238 7) ∨ (h 238 (43 + (h 238 86).toNat) ≤ 0 ∧ h 238 86 - h 238 106 ≤ h 238 3)) → (mlP (h 238) 2 z0) → Q (.inl (some (vi z0))) (hp_w h cr) b c) : wp (md_xa (L, xs)) (d + 1) 267 (0, [(0, .ref 236), (1, vi 2)], [], hp_w h cr, b, c) Q := by
  have F0 : FR [] h h := FR.refl
  refine wi_aload_n (i := 0) (x := 236) (nx := 1) (r1 := 0) (r2 := 0) (r3 := 0) rfl rfl ?_
  refine wr_gr (k0 := 236) (x := 238) (nx := 4) (r1 := 11) (r2 := 13) (r3 := 0) rfl rfl (by decide) rfl ⟨rfl, rfl⟩ rfl ?_
  refine wi_bipush (n := 98) (nx := 6) (r1 := 0) (r2 := 0) (r3 := 0) rfl (by decide) ?_
  refine wi_iload_n (i := 1) (e := 2) (nx := 7) (r1 := 0) (r2 := 0) (r3 := 0) rfl rfl ?_
  refine wr_addL (100) (nx := 8) (r1 := 0) (r2 := 0) (r3 := 0) rfl (by decide) ?_
  have b1 := gi_b (lo := 0) (hi := 6) g 238 100 rfl
  refine wr_ia (k0 := 238) (a := 100) (f := 100) (x := h 238 100) (nx := 9) (r1 := 0) (r2 := 0) (r3 := 0) rfl (by decide) rfl (by omega) (by omega) (by decide) rfl ?_
  refine wi_if (cd := .eq) (nx := 12) (r1 := 25) (r2 := 0) (r3 := 0) rfl (by omega) (fun (q2 : (h 238 100) = 0) => ?_) (fun (q2 : ¬ ((h 238 100) = 0)) => ?_)
  ·
    refine wi_iconst (n := 0) (nx := 26) (r1 := 0) (r2 := 0) (r3 := 0) rfl ?_
    refine wi_zreturn (nx := 27) (r1 := 0) (r2 := 0) (r3 := 0) rfl rfl (by omega) ?_
    have b3 := gi_b (lo := 0) (hi := 9999) g 238 67 rfl
    have b4 := gi_b (lo := 0) (hi := 11) g 238 86 rfl
    obtain ⟨i5, ei5⟩ : ∃ q : Nat, (43 + h 238 86) = (q : Int) := ⟨(43 + h 238 86).toNat, by omega⟩
    have b6 := gi_b (lo := 0) (hi := 999) g 238 i5 (gi_rg 43 12 (fun _ => rfl) (by decide +kernel) (by omega))
    have e7 : h 238 (43 + (h 238 86).toNat) = h 238 i5 := by rw [show 43 + (h 238 86).toNat = i5 by omega]
    have b8 := gi_b (lo := 0) (hi := 3) g 238 102 rfl
    have b9 := gi_b (lo := 0) (hi := 3) g 238 7 rfl
    have b10 := gi_b (lo := 0) (hi := 12) g 238 106 rfl
    have b11 := gi_b (lo := 0) (hi := 999) g 238 3 rfl
    exact k 0 (by omega) (show 0 = 0 ∨ 1 ≤ (h 238 100) by omega) (show 0 = 0 ∨ (h 238 67) ≤ 9998 by omega) (show 0 = 0 ∨ (1 ≤ (h 238 (43 + (h 238 86).toNat)) ∧ (h 238 102) < (h 238 7)) ∨ ((h 238 (43 + (h 238 86).toNat)) ≤ 0 ∧ (h 238 86) - (h 238 106) ≤ (h 238 3)) by omega) (Or.inr ⟨rfl, fun c => by
        have c2 : 1 ≤ h 238 100 := c.1
        have c3 : h 238 67 ≤ 9998 := c.2.1
        have c4 : ((1 ≤ h 238 (43 + (h 238 86).toNat) ∧ h 238 102 < h 238 7) ∨ (h 238 (43 + (h 238 86).toNat) ≤ 0 ∧ h 238 86 - h 238 106 ≤ h 238 3)) := c.2.2
        rw [show 43 + (h 238 86).toNat = i5 by omega] at c4
        omega⟩)
  ·
    refine wi_aload_n (i := 0) (x := 236) (nx := 13) (r1 := 0) (r2 := 0) (r3 := 0) rfl rfl ?_
    refine wr_gr (k0 := 236) (x := 238) (nx := 16) (r1 := 11) (r2 := 13) (r3 := 0) rfl rfl (by decide) rfl ⟨rfl, rfl⟩ rfl ?_
    refine wi_bipush (n := 67) (nx := 18) (r1 := 0) (r2 := 0) (r3 := 0) rfl (by decide) ?_
    have b3 := gi_b (lo := 0) (hi := 9999) g 238 67 rfl
    refine wr_ia (k0 := 238) (a := 67) (f := 67) (x := h 238 67) (nx := 19) (r1 := 0) (r2 := 0) (r3 := 0) rfl (by decide) rfl (by omega) (by omega) (by decide) rfl ?_
    refine wi_sipush (n := 9999) (nx := 22) (r1 := 0) (r2 := 0) (r3 := 0) rfl (by decide) ?_
    refine wi_icmp (cd := .ne) (nx := 25) (r1 := 27) (r2 := 0) (r3 := 0) rfl (by omega) (by omega) (fun (q4 : (h 238 67) ≠ 9999) => ?_) (fun (q4 : ¬ ((h 238 67) ≠ 9999)) => ?_)
    ·
      refine wi_aload_n (i := 0) (x := 236) (nx := 28) (r1 := 0) (r2 := 0) (r3 := 0) rfl rfl ?_
      refine wi_iload_n (i := 1) (e := 2) (nx := 29) (r1 := 0) (r2 := 0) (r3 := 0) rfl rfl ?_
      refine wi_iconst (n := 0) (nx := 30) (r1 := 0) (r2 := 0) (r3 := 0) rfl ?_
      refine wr_V (k0 := 236) (rest := []) (as := [.ref 236, vi 2, vi 0]) (nx := 33) (r1 := 258) (r2 := 2) (r3 := 11) rfl rfl rfl (of_decide_eq_true rfl) rfl rfl (by decide) rfl rfl (of_decide_eq_true rfl) (of_decide_eq_true rfl) ?_
      refine wi_aload_n (i := 0) (x := 236) (nx := 1) (r1 := 0) (r2 := 0) (r3 := 0) rfl rfl ?_
      refine wr_gr (k0 := 236) (x := 238) (nx := 4) (r1 := 11) (r2 := 13) (r3 := 0) rfl rfl (by decide) rfl ⟨rfl, rfl⟩ rfl ?_
      refine wi_bipush (n := 74) (nx := 6) (r1 := 0) (r2 := 0) (r3 := 0) rfl (by decide) ?_
      refine wi_bipush (n := 6) (nx := 8) (r1 := 0) (r2 := 0) (r3 := 0) rfl (by decide) ?_
      refine wi_iload_n (i := 1) (e := 2) (nx := 9) (r1 := 0) (r2 := 0) (r3 := 0) rfl rfl ?_
      refine wr_mulL (12) (nx := 10) (r1 := 0) (r2 := 0) (r3 := 0) rfl (by decide) ?_
      refine wr_addL (86) (nx := 11) (r1 := 0) (r2 := 0) (r3 := 0) rfl (by decide) ?_
      refine wi_iload_n (i := 2) (e := 0) (nx := 12) (r1 := 0) (r2 := 0) (r3 := 0) rfl rfl ?_
      refine wr_addL (86) (nx := 13) (r1 := 0) (r2 := 0) (r3 := 0) rfl (by decide) ?_
      have b5 := gi_b (lo := 0) (hi := 11) g 238 86 rfl
      refine wr_ia (k0 := 238) (a := 86) (f := 86) (x := h 238 86) (nx := 14) (r1 := 0) (r2 := 0) (r3 := 0) rfl (by decide) rfl (by omega) (by omega) (by decide) rfl ?_
      refine wi_ireturn (nx := 15) (r1 := 0) (r2 := 0) (r3 := 0) rfl rfl ?_
      refine wk_i ?_
      refine wi_istore_n (i := 2) (e := h 238 86) (lo2 := [(2, vi (h 238 86)), (0, .ref 236), (1, vi 2)]) (nx := 34) (r1 := 0) (r2 := 0) (r3 := 0) rfl rfl ?_
      refine wi_aload_n (i := 0) (x := 236) (nx := 35) (r1 := 0) (r2 := 0) (r3 := 0) rfl rfl ?_
      refine wr_gr (k0 := 236) (x := 238) (nx := 38) (r1 := 11) (r2 := 13) (r3 := 0) rfl rfl (by decide) rfl ⟨rfl, rfl⟩ rfl ?_
      refine wi_bipush (n := 43) (nx := 40) (r1 := 0) (r2 := 0) (r3 := 0) rfl (by decide) ?_
      refine wi_iload_n (i := 2) (e := h 238 86) (nx := 41) (r1 := 0) (r2 := 0) (r3 := 0) rfl rfl ?_
      refine wr_add (nx := 42) (r1 := 0) (r2 := 0) (r3 := 0) rfl (fun e6 (fe6 : e6 = 43 + (h 238 86)) => ?_)
      obtain ⟨i7, ei7⟩ : ∃ q : Nat, e6 = (q : Int) := ⟨(e6).toNat, by omega⟩
      have b8 := gi_b (lo := 0) (hi := 999) g 238 i7 (gi_rg 43 12 (fun _ => rfl) (by decide +kernel) (by omega))
      refine wr_ia (k0 := 238) (a := e6) (f := i7) (x := h 238 i7) (nx := 43) (r1 := 0) (r2 := 0) (r3 := 0) rfl (by decide) rfl (by omega) (by omega) (by decide) rfl ?_
      refine wi_if (cd := .le) (nx := 46) (r1 := 71) (r2 := 0) (r3 := 0) rfl (by omega) (fun (q9 : (h 238 i7) ≤ 0) => ?_) (fun (q9 : ¬ ((h 238 i7) ≤ 0)) => ?_)
      ·
        refine wi_iload_n (i := 2) (e := h 238 86) (nx := 72) (r1 := 0) (r2 := 0) (r3 := 0) rfl rfl ?_
        refine wi_aload_n (i := 0) (x := 236) (nx := 73) (r1 := 0) (r2 := 0) (r3 := 0) rfl rfl ?_
        refine wr_gr (k0 := 236) (x := 238) (nx := 76) (r1 := 11) (r2 := 13) (r3 := 0) rfl rfl (by decide) rfl ⟨rfl, rfl⟩ rfl ?_
        refine wi_bipush (n := 106) (nx := 78) (r1 := 0) (r2 := 0) (r3 := 0) rfl (by decide) ?_
        have b10 := gi_b (lo := 0) (hi := 12) g 238 106 rfl
        refine wr_ia (k0 := 238) (a := 106) (f := 106) (x := h 238 106) (nx := 79) (r1 := 0) (r2 := 0) (r3 := 0) rfl (by decide) rfl (by omega) (by omega) (by decide) rfl ?_
        refine wr_sub (nx := 80) (r1 := 0) (r2 := 0) (r3 := 0) rfl (fun e11 (fe11 : e11 = (h 238 86) - (h 238 106)) => ?_)
        refine wi_aload_n (i := 0) (x := 236) (nx := 81) (r1 := 0) (r2 := 0) (r3 := 0) rfl rfl ?_
        refine wr_gr (k0 := 236) (x := 238) (nx := 84) (r1 := 11) (r2 := 13) (r3 := 0) rfl rfl (by decide) rfl ⟨rfl, rfl⟩ rfl ?_
        refine wi_iconst (n := 3) (nx := 85) (r1 := 0) (r2 := 0) (r3 := 0) rfl ?_
        have b12 := gi_b (lo := 0) (hi := 999) g 238 3 rfl
        refine wr_ia (k0 := 238) (a := 3) (f := 3) (x := h 238 3) (nx := 86) (r1 := 0) (r2 := 0) (r3 := 0) rfl (by decide) rfl (by omega) (by omega) (by decide) rfl ?_
        refine wi_icmp (cd := .gt) (nx := 89) (r1 := 93) (r2 := 0) (r3 := 0) rfl (by omega) (by omega) (fun (q13 : (h 238 3) < e11) => ?_) (fun (q13 : ¬ ((h 238 3) < e11)) => ?_)
        ·
          refine wi_iconst (n := 0) (nx := 94) (r1 := 0) (r2 := 0) (r3 := 0) rfl ?_
          refine wi_zreturn (nx := 95) (r1 := 0) (r2 := 0) (r3 := 0) rfl rfl (by omega) ?_
          have e14 : h 238 (43 + (h 238 86).toNat) = h 238 i7 := by rw [show 43 + (h 238 86).toNat = i7 by omega]
          have b15 := gi_b (lo := 0) (hi := 3) g 238 102 rfl
          have b16 := gi_b (lo := 0) (hi := 3) g 238 7 rfl
          exact k 0 (by omega) (show 0 = 0 ∨ 1 ≤ (h 238 100) by omega) (show 0 = 0 ∨ (h 238 67) ≤ 9998 by omega) (show 0 = 0 ∨ (1 ≤ (h 238 (43 + (h 238 86).toNat)) ∧ (h 238 102) < (h 238 7)) ∨ ((h 238 (43 + (h 238 86).toNat)) ≤ 0 ∧ (h 238 86) - (h 238 106) ≤ (h 238 3)) by omega) (Or.inr ⟨rfl, fun c => by
              have c2 : 1 ≤ h 238 100 := c.1
              have c3 : h 238 67 ≤ 9998 := c.2.1
              have c4 : ((1 ≤ h 238 (43 + (h 238 86).toNat) ∧ h 238 102 < h 238 7) ∨ (h 238 (43 + (h 238 86).toNat) ≤ 0 ∧ h 238 86 - h 238 106 ≤ h 238 3)) := c.2.2
              rw [show 43 + (h 238 86).toNat = i7 by omega] at c4
              omega⟩)
        ·
          refine wi_iconst (n := 1) (nx := 90) (r1 := 0) (r2 := 0) (r3 := 0) rfl ?_
          refine wi_goto (nx := 93) (r1 := 94) (r2 := 0) (r3 := 0) rfl ?_
          refine wi_zreturn (nx := 95) (r1 := 0) (r2 := 0) (r3 := 0) rfl rfl (by omega) ?_
          have e14 : h 238 (43 + (h 238 86).toNat) = h 238 i7 := by rw [show 43 + (h 238 86).toNat = i7 by omega]
          have b15 := gi_b (lo := 0) (hi := 3) g 238 102 rfl
          have b16 := gi_b (lo := 0) (hi := 3) g 238 7 rfl
          exact k 1 (by omega) (show 1 = 0 ∨ 1 ≤ (h 238 100) by omega) (show 1 = 0 ∨ (h 238 67) ≤ 9998 by omega) (show 1 = 0 ∨ (1 ≤ (h 238 (43 + (h 238 86).toNat)) ∧ (h 238 102) < (h 238 7)) ∨ ((h 238 (43 + (h 238 86).toNat)) ≤ 0 ∧ (h 238 86) - (h 238 106) ≤ (h 238 3)) by omega) (Or.inl ⟨rfl, (show 1 ≤ h 238 100 by omega), (show h 238 67 ≤ 9998 by omega), (show ((1 ≤ h 238 (43 + (h 238 86).toNat) ∧ h 238 102 < h 238 7) ∨ (h 238 (43 + (h 238 86).toNat) ≤ 0 ∧ h 238 86 - h 238 106 ≤ h 238 3)) by rw [show 43 + (h 238 86).toNat = i7 by omega]; omega)⟩)
      ·
        refine wi_aload_n (i := 0) (x := 236) (nx := 47) (r1 := 0) (r2 := 0) (r3 := 0) rfl rfl ?_
        refine wr_gr (k0 := 236) (x := 238) (nx := 50) (r1 := 11) (r2 := 13) (r3 := 0) rfl rfl (by decide) rfl ⟨rfl, rfl⟩ rfl ?_
        refine wi_bipush (n := 102) (nx := 52) (r1 := 0) (r2 := 0) (r3 := 0) rfl (by decide) ?_
        have b10 := gi_b (lo := 0) (hi := 3) g 238 102 rfl
        refine wr_ia (k0 := 238) (a := 102) (f := 102) (x := h 238 102) (nx := 53) (r1 := 0) (r2 := 0) (r3 := 0) rfl (by decide) rfl (by omega) (by omega) (by decide) rfl ?_
        refine wi_aload_n (i := 0) (x := 236) (nx := 54) (r1 := 0) (r2 := 0) (r3 := 0) rfl rfl ?_
        refine wr_gr (k0 := 236) (x := 238) (nx := 57) (r1 := 11) (r2 := 13) (r3 := 0) rfl rfl (by decide) rfl ⟨rfl, rfl⟩ rfl ?_
        refine wi_bipush (n := 7) (nx := 59) (r1 := 0) (r2 := 0) (r3 := 0) rfl (by decide) ?_
        have b11 := gi_b (lo := 0) (hi := 3) g 238 7 rfl
        refine wr_ia (k0 := 238) (a := 7) (f := 7) (x := h 238 7) (nx := 60) (r1 := 0) (r2 := 0) (r3 := 0) rfl (by decide) rfl (by omega) (by omega) (by decide) rfl ?_
        refine wi_icmp (cd := .ge) (nx := 63) (r1 := 67) (r2 := 0) (r3 := 0) rfl (by omega) (by omega) (fun (q12 : (h 238 7) ≤ (h 238 102)) => ?_) (fun (q12 : ¬ ((h 238 7) ≤ (h 238 102))) => ?_)
        ·
          refine wi_iconst (n := 0) (nx := 68) (r1 := 0) (r2 := 0) (r3 := 0) rfl ?_
          refine wi_goto (nx := 71) (r1 := 94) (r2 := 0) (r3 := 0) rfl ?_
          refine wi_zreturn (nx := 95) (r1 := 0) (r2 := 0) (r3 := 0) rfl rfl (by omega) ?_
          have e13 : h 238 (43 + (h 238 86).toNat) = h 238 i7 := by rw [show 43 + (h 238 86).toNat = i7 by omega]
          have b14 := gi_b (lo := 0) (hi := 12) g 238 106 rfl
          have b15 := gi_b (lo := 0) (hi := 999) g 238 3 rfl
          exact k 0 (by omega) (show 0 = 0 ∨ 1 ≤ (h 238 100) by omega) (show 0 = 0 ∨ (h 238 67) ≤ 9998 by omega) (show 0 = 0 ∨ (1 ≤ (h 238 (43 + (h 238 86).toNat)) ∧ (h 238 102) < (h 238 7)) ∨ ((h 238 (43 + (h 238 86).toNat)) ≤ 0 ∧ (h 238 86) - (h 238 106) ≤ (h 238 3)) by omega) (Or.inr ⟨rfl, fun c => by
              have c2 : 1 ≤ h 238 100 := c.1
              have c3 : h 238 67 ≤ 9998 := c.2.1
              have c4 : ((1 ≤ h 238 (43 + (h 238 86).toNat) ∧ h 238 102 < h 238 7) ∨ (h 238 (43 + (h 238 86).toNat) ≤ 0 ∧ h 238 86 - h 238 106 ≤ h 238 3)) := c.2.2
              rw [show 43 + (h 238 86).toNat = i7 by omega] at c4
              omega⟩)
        ·
          refine wi_iconst (n := 1) (nx := 64) (r1 := 0) (r2 := 0) (r3 := 0) rfl ?_
          refine wi_goto (nx := 67) (r1 := 94) (r2 := 0) (r3 := 0) rfl ?_
          refine wi_zreturn (nx := 95) (r1 := 0) (r2 := 0) (r3 := 0) rfl rfl (by omega) ?_
          have e13 : h 238 (43 + (h 238 86).toNat) = h 238 i7 := by rw [show 43 + (h 238 86).toNat = i7 by omega]
          have b14 := gi_b (lo := 0) (hi := 12) g 238 106 rfl
          have b15 := gi_b (lo := 0) (hi := 999) g 238 3 rfl
          exact k 1 (by omega) (show 1 = 0 ∨ 1 ≤ (h 238 100) by omega) (show 1 = 0 ∨ (h 238 67) ≤ 9998 by omega) (show 1 = 0 ∨ (1 ≤ (h 238 (43 + (h 238 86).toNat)) ∧ (h 238 102) < (h 238 7)) ∨ ((h 238 (43 + (h 238 86).toNat)) ≤ 0 ∧ (h 238 86) - (h 238 106) ≤ (h 238 3)) by omega) (Or.inl ⟨rfl, (show 1 ≤ h 238 100 by omega), (show h 238 67 ≤ 9998 by omega), (show ((1 ≤ h 238 (43 + (h 238 86).toNat) ∧ h 238 102 < h 238 7) ∨ (h 238 (43 + (h 238 86).toNat) ≤ 0 ∧ h 238 86 - h 238 106 ≤ h 238 3)) by rw [show 43 + (h 238 86).toNat = i7 by omega]; omega)⟩)
    ·
      refine wi_iconst (n := 0) (nx := 26) (r1 := 0) (r2 := 0) (r3 := 0) rfl ?_
      refine wi_zreturn (nx := 27) (r1 := 0) (r2 := 0) (r3 := 0) rfl rfl (by omega) ?_
      have b5 := gi_b (lo := 0) (hi := 11) g 238 86 rfl
      obtain ⟨i6, ei6⟩ : ∃ q : Nat, (43 + h 238 86) = (q : Int) := ⟨(43 + h 238 86).toNat, by omega⟩
      have b7 := gi_b (lo := 0) (hi := 999) g 238 i6 (gi_rg 43 12 (fun _ => rfl) (by decide +kernel) (by omega))
      have e8 : h 238 (43 + (h 238 86).toNat) = h 238 i6 := by rw [show 43 + (h 238 86).toNat = i6 by omega]
      have b9 := gi_b (lo := 0) (hi := 3) g 238 102 rfl
      have b10 := gi_b (lo := 0) (hi := 3) g 238 7 rfl
      have b11 := gi_b (lo := 0) (hi := 12) g 238 106 rfl
      have b12 := gi_b (lo := 0) (hi := 999) g 238 3 rfl
      exact k 0 (by omega) (show 0 = 0 ∨ 1 ≤ (h 238 100) by omega) (show 0 = 0 ∨ (h 238 67) ≤ 9998 by omega) (show 0 = 0 ∨ (1 ≤ (h 238 (43 + (h 238 86).toNat)) ∧ (h 238 102) < (h 238 7)) ∨ ((h 238 (43 + (h 238 86).toNat)) ≤ 0 ∧ (h 238 86) - (h 238 106) ≤ (h 238 3)) by omega) (Or.inr ⟨rfl, fun c => by
          have c2 : 1 ≤ h 238 100 := c.1
          have c3 : h 238 67 ≤ 9998 := c.2.1
          have c4 : ((1 ≤ h 238 (43 + (h 238 86).toNat) ∧ h 238 102 < h 238 7) ∨ (h 238 (43 + (h 238 86).toNat) ≤ 0 ∧ h 238 86 - h 238 106 ≤ h 238 3)) := c.2.2
          rw [show 43 + (h 238 86).toNat = i6 by omega] at c4
          omega⟩)
-- method 267: Model.mayLeave(I)Z
set_option maxRecDepth 100000 in
set_option maxHeartbeats 100000000 in
theorem ct_267_236_L3 {L : Nat} {xs : Nat → Int32} {d b c : Nat} {h : hp} {cr : Nat → Nat → Option Nat} {Q : hp_Q} (hcr : CR cr)  (g : GI h)    (k : ∀ (z0 : Int), (0 ≤ z0 ∧ z0 ≤ 1) → (z0 = 0 ∨ 1 ≤ h 238 101) → (z0 = 0 ∨ h 238 67 ≤ 9998) → (z0 = 0 ∨ (1 ≤ h 238 (43 + (h 238 92).toNat) ∧ h 238 102 < h 238 7) ∨ (h 238 (43 + (h 238 92).toNat) ≤ 0 ∧ h 238 92 - h 238 106 ≤ h 238 3)) → (mlP (h 238) 3 z0) → Q (.inl (some (vi z0))) (hp_w h cr) b c) : wp (md_xa (L, xs)) (d + 1) 267 (0, [(0, .ref 236), (1, vi 3)], [], hp_w h cr, b, c) Q := by
  have F0 : FR [] h h := FR.refl
  refine wi_aload_n (i := 0) (x := 236) (nx := 1) (r1 := 0) (r2 := 0) (r3 := 0) rfl rfl ?_
  refine wr_gr (k0 := 236) (x := 238) (nx := 4) (r1 := 11) (r2 := 13) (r3 := 0) rfl rfl (by decide) rfl ⟨rfl, rfl⟩ rfl ?_
  refine wi_bipush (n := 98) (nx := 6) (r1 := 0) (r2 := 0) (r3 := 0) rfl (by decide) ?_
  refine wi_iload_n (i := 1) (e := 3) (nx := 7) (r1 := 0) (r2 := 0) (r3 := 0) rfl rfl ?_
  refine wr_addL (101) (nx := 8) (r1 := 0) (r2 := 0) (r3 := 0) rfl (by decide) ?_
  have b1 := gi_b (lo := 0) (hi := 6) g 238 101 rfl
  refine wr_ia (k0 := 238) (a := 101) (f := 101) (x := h 238 101) (nx := 9) (r1 := 0) (r2 := 0) (r3 := 0) rfl (by decide) rfl (by omega) (by omega) (by decide) rfl ?_
  refine wi_if (cd := .eq) (nx := 12) (r1 := 25) (r2 := 0) (r3 := 0) rfl (by omega) (fun (q2 : (h 238 101) = 0) => ?_) (fun (q2 : ¬ ((h 238 101) = 0)) => ?_)
  ·
    refine wi_iconst (n := 0) (nx := 26) (r1 := 0) (r2 := 0) (r3 := 0) rfl ?_
    refine wi_zreturn (nx := 27) (r1 := 0) (r2 := 0) (r3 := 0) rfl rfl (by omega) ?_
    have b3 := gi_b (lo := 0) (hi := 9999) g 238 67 rfl
    have b4 := gi_b (lo := 0) (hi := 11) g 238 92 rfl
    obtain ⟨i5, ei5⟩ : ∃ q : Nat, (43 + h 238 92) = (q : Int) := ⟨(43 + h 238 92).toNat, by omega⟩
    have b6 := gi_b (lo := 0) (hi := 999) g 238 i5 (gi_rg 43 12 (fun _ => rfl) (by decide +kernel) (by omega))
    have e7 : h 238 (43 + (h 238 92).toNat) = h 238 i5 := by rw [show 43 + (h 238 92).toNat = i5 by omega]
    have b8 := gi_b (lo := 0) (hi := 3) g 238 102 rfl
    have b9 := gi_b (lo := 0) (hi := 3) g 238 7 rfl
    have b10 := gi_b (lo := 0) (hi := 12) g 238 106 rfl
    have b11 := gi_b (lo := 0) (hi := 999) g 238 3 rfl
    exact k 0 (by omega) (show 0 = 0 ∨ 1 ≤ (h 238 101) by omega) (show 0 = 0 ∨ (h 238 67) ≤ 9998 by omega) (show 0 = 0 ∨ (1 ≤ (h 238 (43 + (h 238 92).toNat)) ∧ (h 238 102) < (h 238 7)) ∨ ((h 238 (43 + (h 238 92).toNat)) ≤ 0 ∧ (h 238 92) - (h 238 106) ≤ (h 238 3)) by omega) (Or.inr ⟨rfl, fun c => by
        have c2 : 1 ≤ h 238 101 := c.1
        have c3 : h 238 67 ≤ 9998 := c.2.1
        have c4 : ((1 ≤ h 238 (43 + (h 238 92).toNat) ∧ h 238 102 < h 238 7) ∨ (h 238 (43 + (h 238 92).toNat) ≤ 0 ∧ h 238 92 - h 238 106 ≤ h 238 3)) := c.2.2
        rw [show 43 + (h 238 92).toNat = i5 by omega] at c4
        omega⟩)
  ·
    refine wi_aload_n (i := 0) (x := 236) (nx := 13) (r1 := 0) (r2 := 0) (r3 := 0) rfl rfl ?_
    refine wr_gr (k0 := 236) (x := 238) (nx := 16) (r1 := 11) (r2 := 13) (r3 := 0) rfl rfl (by decide) rfl ⟨rfl, rfl⟩ rfl ?_
    refine wi_bipush (n := 67) (nx := 18) (r1 := 0) (r2 := 0) (r3 := 0) rfl (by decide) ?_
    have b3 := gi_b (lo := 0) (hi := 9999) g 238 67 rfl
    refine wr_ia (k0 := 238) (a := 67) (f := 67) (x := h 238 67) (nx := 19) (r1 := 0) (r2 := 0) (r3 := 0) rfl (by decide) rfl (by omega) (by omega) (by decide) rfl ?_
    refine wi_sipush (n := 9999) (nx := 22) (r1 := 0) (r2 := 0) (r3 := 0) rfl (by decide) ?_
    refine wi_icmp (cd := .ne) (nx := 25) (r1 := 27) (r2 := 0) (r3 := 0) rfl (by omega) (by omega) (fun (q4 : (h 238 67) ≠ 9999) => ?_) (fun (q4 : ¬ ((h 238 67) ≠ 9999)) => ?_)
    ·
      refine wi_aload_n (i := 0) (x := 236) (nx := 28) (r1 := 0) (r2 := 0) (r3 := 0) rfl rfl ?_
      refine wi_iload_n (i := 1) (e := 3) (nx := 29) (r1 := 0) (r2 := 0) (r3 := 0) rfl rfl ?_
      refine wi_iconst (n := 0) (nx := 30) (r1 := 0) (r2 := 0) (r3 := 0) rfl ?_
      refine wr_V (k0 := 236) (rest := []) (as := [.ref 236, vi 3, vi 0]) (nx := 33) (r1 := 258) (r2 := 2) (r3 := 11) rfl rfl rfl (of_decide_eq_true rfl) rfl rfl (by decide) rfl rfl (of_decide_eq_true rfl) (of_decide_eq_true rfl) ?_
      refine wi_aload_n (i := 0) (x := 236) (nx := 1) (r1 := 0) (r2 := 0) (r3 := 0) rfl rfl ?_
      refine wr_gr (k0 := 236) (x := 238) (nx := 4) (r1 := 11) (r2 := 13) (r3 := 0) rfl rfl (by decide) rfl ⟨rfl, rfl⟩ rfl ?_
      refine wi_bipush (n := 74) (nx := 6) (r1 := 0) (r2 := 0) (r3 := 0) rfl (by decide) ?_
      refine wi_bipush (n := 6) (nx := 8) (r1 := 0) (r2 := 0) (r3 := 0) rfl (by decide) ?_
      refine wi_iload_n (i := 1) (e := 3) (nx := 9) (r1 := 0) (r2 := 0) (r3 := 0) rfl rfl ?_
      refine wr_mulL (18) (nx := 10) (r1 := 0) (r2 := 0) (r3 := 0) rfl (by decide) ?_
      refine wr_addL (92) (nx := 11) (r1 := 0) (r2 := 0) (r3 := 0) rfl (by decide) ?_
      refine wi_iload_n (i := 2) (e := 0) (nx := 12) (r1 := 0) (r2 := 0) (r3 := 0) rfl rfl ?_
      refine wr_addL (92) (nx := 13) (r1 := 0) (r2 := 0) (r3 := 0) rfl (by decide) ?_
      have b5 := gi_b (lo := 0) (hi := 11) g 238 92 rfl
      refine wr_ia (k0 := 238) (a := 92) (f := 92) (x := h 238 92) (nx := 14) (r1 := 0) (r2 := 0) (r3 := 0) rfl (by decide) rfl (by omega) (by omega) (by decide) rfl ?_
      refine wi_ireturn (nx := 15) (r1 := 0) (r2 := 0) (r3 := 0) rfl rfl ?_
      refine wk_i ?_
      refine wi_istore_n (i := 2) (e := h 238 92) (lo2 := [(2, vi (h 238 92)), (0, .ref 236), (1, vi 3)]) (nx := 34) (r1 := 0) (r2 := 0) (r3 := 0) rfl rfl ?_
      refine wi_aload_n (i := 0) (x := 236) (nx := 35) (r1 := 0) (r2 := 0) (r3 := 0) rfl rfl ?_
      refine wr_gr (k0 := 236) (x := 238) (nx := 38) (r1 := 11) (r2 := 13) (r3 := 0) rfl rfl (by decide) rfl ⟨rfl, rfl⟩ rfl ?_
      refine wi_bipush (n := 43) (nx := 40) (r1 := 0) (r2 := 0) (r3 := 0) rfl (by decide) ?_
      refine wi_iload_n (i := 2) (e := h 238 92) (nx := 41) (r1 := 0) (r2 := 0) (r3 := 0) rfl rfl ?_
      refine wr_add (nx := 42) (r1 := 0) (r2 := 0) (r3 := 0) rfl (fun e6 (fe6 : e6 = 43 + (h 238 92)) => ?_)
      obtain ⟨i7, ei7⟩ : ∃ q : Nat, e6 = (q : Int) := ⟨(e6).toNat, by omega⟩
      have b8 := gi_b (lo := 0) (hi := 999) g 238 i7 (gi_rg 43 12 (fun _ => rfl) (by decide +kernel) (by omega))
      refine wr_ia (k0 := 238) (a := e6) (f := i7) (x := h 238 i7) (nx := 43) (r1 := 0) (r2 := 0) (r3 := 0) rfl (by decide) rfl (by omega) (by omega) (by decide) rfl ?_
      refine wi_if (cd := .le) (nx := 46) (r1 := 71) (r2 := 0) (r3 := 0) rfl (by omega) (fun (q9 : (h 238 i7) ≤ 0) => ?_) (fun (q9 : ¬ ((h 238 i7) ≤ 0)) => ?_)
      ·
        refine wi_iload_n (i := 2) (e := h 238 92) (nx := 72) (r1 := 0) (r2 := 0) (r3 := 0) rfl rfl ?_
        refine wi_aload_n (i := 0) (x := 236) (nx := 73) (r1 := 0) (r2 := 0) (r3 := 0) rfl rfl ?_
        refine wr_gr (k0 := 236) (x := 238) (nx := 76) (r1 := 11) (r2 := 13) (r3 := 0) rfl rfl (by decide) rfl ⟨rfl, rfl⟩ rfl ?_
        refine wi_bipush (n := 106) (nx := 78) (r1 := 0) (r2 := 0) (r3 := 0) rfl (by decide) ?_
        have b10 := gi_b (lo := 0) (hi := 12) g 238 106 rfl
        refine wr_ia (k0 := 238) (a := 106) (f := 106) (x := h 238 106) (nx := 79) (r1 := 0) (r2 := 0) (r3 := 0) rfl (by decide) rfl (by omega) (by omega) (by decide) rfl ?_
        refine wr_sub (nx := 80) (r1 := 0) (r2 := 0) (r3 := 0) rfl (fun e11 (fe11 : e11 = (h 238 92) - (h 238 106)) => ?_)
        refine wi_aload_n (i := 0) (x := 236) (nx := 81) (r1 := 0) (r2 := 0) (r3 := 0) rfl rfl ?_
        refine wr_gr (k0 := 236) (x := 238) (nx := 84) (r1 := 11) (r2 := 13) (r3 := 0) rfl rfl (by decide) rfl ⟨rfl, rfl⟩ rfl ?_
        refine wi_iconst (n := 3) (nx := 85) (r1 := 0) (r2 := 0) (r3 := 0) rfl ?_
        have b12 := gi_b (lo := 0) (hi := 999) g 238 3 rfl
        refine wr_ia (k0 := 238) (a := 3) (f := 3) (x := h 238 3) (nx := 86) (r1 := 0) (r2 := 0) (r3 := 0) rfl (by decide) rfl (by omega) (by omega) (by decide) rfl ?_
        refine wi_icmp (cd := .gt) (nx := 89) (r1 := 93) (r2 := 0) (r3 := 0) rfl (by omega) (by omega) (fun (q13 : (h 238 3) < e11) => ?_) (fun (q13 : ¬ ((h 238 3) < e11)) => ?_)
        ·
          refine wi_iconst (n := 0) (nx := 94) (r1 := 0) (r2 := 0) (r3 := 0) rfl ?_
          refine wi_zreturn (nx := 95) (r1 := 0) (r2 := 0) (r3 := 0) rfl rfl (by omega) ?_
          have e14 : h 238 (43 + (h 238 92).toNat) = h 238 i7 := by rw [show 43 + (h 238 92).toNat = i7 by omega]
          have b15 := gi_b (lo := 0) (hi := 3) g 238 102 rfl
          have b16 := gi_b (lo := 0) (hi := 3) g 238 7 rfl
          exact k 0 (by omega) (show 0 = 0 ∨ 1 ≤ (h 238 101) by omega) (show 0 = 0 ∨ (h 238 67) ≤ 9998 by omega) (show 0 = 0 ∨ (1 ≤ (h 238 (43 + (h 238 92).toNat)) ∧ (h 238 102) < (h 238 7)) ∨ ((h 238 (43 + (h 238 92).toNat)) ≤ 0 ∧ (h 238 92) - (h 238 106) ≤ (h 238 3)) by omega) (Or.inr ⟨rfl, fun c => by
              have c2 : 1 ≤ h 238 101 := c.1
              have c3 : h 238 67 ≤ 9998 := c.2.1
              have c4 : ((1 ≤ h 238 (43 + (h 238 92).toNat) ∧ h 238 102 < h 238 7) ∨ (h 238 (43 + (h 238 92).toNat) ≤ 0 ∧ h 238 92 - h 238 106 ≤ h 238 3)) := c.2.2
              rw [show 43 + (h 238 92).toNat = i7 by omega] at c4
              omega⟩)
        ·
          refine wi_iconst (n := 1) (nx := 90) (r1 := 0) (r2 := 0) (r3 := 0) rfl ?_
          refine wi_goto (nx := 93) (r1 := 94) (r2 := 0) (r3 := 0) rfl ?_
          refine wi_zreturn (nx := 95) (r1 := 0) (r2 := 0) (r3 := 0) rfl rfl (by omega) ?_
          have e14 : h 238 (43 + (h 238 92).toNat) = h 238 i7 := by rw [show 43 + (h 238 92).toNat = i7 by omega]
          have b15 := gi_b (lo := 0) (hi := 3) g 238 102 rfl
          have b16 := gi_b (lo := 0) (hi := 3) g 238 7 rfl
          exact k 1 (by omega) (show 1 = 0 ∨ 1 ≤ (h 238 101) by omega) (show 1 = 0 ∨ (h 238 67) ≤ 9998 by omega) (show 1 = 0 ∨ (1 ≤ (h 238 (43 + (h 238 92).toNat)) ∧ (h 238 102) < (h 238 7)) ∨ ((h 238 (43 + (h 238 92).toNat)) ≤ 0 ∧ (h 238 92) - (h 238 106) ≤ (h 238 3)) by omega) (Or.inl ⟨rfl, (show 1 ≤ h 238 101 by omega), (show h 238 67 ≤ 9998 by omega), (show ((1 ≤ h 238 (43 + (h 238 92).toNat) ∧ h 238 102 < h 238 7) ∨ (h 238 (43 + (h 238 92).toNat) ≤ 0 ∧ h 238 92 - h 238 106 ≤ h 238 3)) by rw [show 43 + (h 238 92).toNat = i7 by omega]; omega)⟩)
      ·
        refine wi_aload_n (i := 0) (x := 236) (nx := 47) (r1 := 0) (r2 := 0) (r3 := 0) rfl rfl ?_
        refine wr_gr (k0 := 236) (x := 238) (nx := 50) (r1 := 11) (r2 := 13) (r3 := 0) rfl rfl (by decide) rfl ⟨rfl, rfl⟩ rfl ?_
        refine wi_bipush (n := 102) (nx := 52) (r1 := 0) (r2 := 0) (r3 := 0) rfl (by decide) ?_
        have b10 := gi_b (lo := 0) (hi := 3) g 238 102 rfl
        refine wr_ia (k0 := 238) (a := 102) (f := 102) (x := h 238 102) (nx := 53) (r1 := 0) (r2 := 0) (r3 := 0) rfl (by decide) rfl (by omega) (by omega) (by decide) rfl ?_
        refine wi_aload_n (i := 0) (x := 236) (nx := 54) (r1 := 0) (r2 := 0) (r3 := 0) rfl rfl ?_
        refine wr_gr (k0 := 236) (x := 238) (nx := 57) (r1 := 11) (r2 := 13) (r3 := 0) rfl rfl (by decide) rfl ⟨rfl, rfl⟩ rfl ?_
        refine wi_bipush (n := 7) (nx := 59) (r1 := 0) (r2 := 0) (r3 := 0) rfl (by decide) ?_
        have b11 := gi_b (lo := 0) (hi := 3) g 238 7 rfl
        refine wr_ia (k0 := 238) (a := 7) (f := 7) (x := h 238 7) (nx := 60) (r1 := 0) (r2 := 0) (r3 := 0) rfl (by decide) rfl (by omega) (by omega) (by decide) rfl ?_
        refine wi_icmp (cd := .ge) (nx := 63) (r1 := 67) (r2 := 0) (r3 := 0) rfl (by omega) (by omega) (fun (q12 : (h 238 7) ≤ (h 238 102)) => ?_) (fun (q12 : ¬ ((h 238 7) ≤ (h 238 102))) => ?_)
        ·
          refine wi_iconst (n := 0) (nx := 68) (r1 := 0) (r2 := 0) (r3 := 0) rfl ?_
          refine wi_goto (nx := 71) (r1 := 94) (r2 := 0) (r3 := 0) rfl ?_
          refine wi_zreturn (nx := 95) (r1 := 0) (r2 := 0) (r3 := 0) rfl rfl (by omega) ?_
          have e13 : h 238 (43 + (h 238 92).toNat) = h 238 i7 := by rw [show 43 + (h 238 92).toNat = i7 by omega]
          have b14 := gi_b (lo := 0) (hi := 12) g 238 106 rfl
          have b15 := gi_b (lo := 0) (hi := 999) g 238 3 rfl
          exact k 0 (by omega) (show 0 = 0 ∨ 1 ≤ (h 238 101) by omega) (show 0 = 0 ∨ (h 238 67) ≤ 9998 by omega) (show 0 = 0 ∨ (1 ≤ (h 238 (43 + (h 238 92).toNat)) ∧ (h 238 102) < (h 238 7)) ∨ ((h 238 (43 + (h 238 92).toNat)) ≤ 0 ∧ (h 238 92) - (h 238 106) ≤ (h 238 3)) by omega) (Or.inr ⟨rfl, fun c => by
              have c2 : 1 ≤ h 238 101 := c.1
              have c3 : h 238 67 ≤ 9998 := c.2.1
              have c4 : ((1 ≤ h 238 (43 + (h 238 92).toNat) ∧ h 238 102 < h 238 7) ∨ (h 238 (43 + (h 238 92).toNat) ≤ 0 ∧ h 238 92 - h 238 106 ≤ h 238 3)) := c.2.2
              rw [show 43 + (h 238 92).toNat = i7 by omega] at c4
              omega⟩)
        ·
          refine wi_iconst (n := 1) (nx := 64) (r1 := 0) (r2 := 0) (r3 := 0) rfl ?_
          refine wi_goto (nx := 67) (r1 := 94) (r2 := 0) (r3 := 0) rfl ?_
          refine wi_zreturn (nx := 95) (r1 := 0) (r2 := 0) (r3 := 0) rfl rfl (by omega) ?_
          have e13 : h 238 (43 + (h 238 92).toNat) = h 238 i7 := by rw [show 43 + (h 238 92).toNat = i7 by omega]
          have b14 := gi_b (lo := 0) (hi := 12) g 238 106 rfl
          have b15 := gi_b (lo := 0) (hi := 999) g 238 3 rfl
          exact k 1 (by omega) (show 1 = 0 ∨ 1 ≤ (h 238 101) by omega) (show 1 = 0 ∨ (h 238 67) ≤ 9998 by omega) (show 1 = 0 ∨ (1 ≤ (h 238 (43 + (h 238 92).toNat)) ∧ (h 238 102) < (h 238 7)) ∨ ((h 238 (43 + (h 238 92).toNat)) ≤ 0 ∧ (h 238 92) - (h 238 106) ≤ (h 238 3)) by omega) (Or.inl ⟨rfl, (show 1 ≤ h 238 101 by omega), (show h 238 67 ≤ 9998 by omega), (show ((1 ≤ h 238 (43 + (h 238 92).toNat) ∧ h 238 102 < h 238 7) ∨ (h 238 (43 + (h 238 92).toNat) ≤ 0 ∧ h 238 92 - h 238 106 ≤ h 238 3)) by rw [show 43 + (h 238 92).toNat = i7 by omega]; omega)⟩)
    ·
      refine wi_iconst (n := 0) (nx := 26) (r1 := 0) (r2 := 0) (r3 := 0) rfl ?_
      refine wi_zreturn (nx := 27) (r1 := 0) (r2 := 0) (r3 := 0) rfl rfl (by omega) ?_
      have b5 := gi_b (lo := 0) (hi := 11) g 238 92 rfl
      obtain ⟨i6, ei6⟩ : ∃ q : Nat, (43 + h 238 92) = (q : Int) := ⟨(43 + h 238 92).toNat, by omega⟩
      have b7 := gi_b (lo := 0) (hi := 999) g 238 i6 (gi_rg 43 12 (fun _ => rfl) (by decide +kernel) (by omega))
      have e8 : h 238 (43 + (h 238 92).toNat) = h 238 i6 := by rw [show 43 + (h 238 92).toNat = i6 by omega]
      have b9 := gi_b (lo := 0) (hi := 3) g 238 102 rfl
      have b10 := gi_b (lo := 0) (hi := 3) g 238 7 rfl
      have b11 := gi_b (lo := 0) (hi := 12) g 238 106 rfl
      have b12 := gi_b (lo := 0) (hi := 999) g 238 3 rfl
      exact k 0 (by omega) (show 0 = 0 ∨ 1 ≤ (h 238 101) by omega) (show 0 = 0 ∨ (h 238 67) ≤ 9998 by omega) (show 0 = 0 ∨ (1 ≤ (h 238 (43 + (h 238 92).toNat)) ∧ (h 238 102) < (h 238 7)) ∨ ((h 238 (43 + (h 238 92).toNat)) ≤ 0 ∧ (h 238 92) - (h 238 106) ≤ (h 238 3)) by omega) (Or.inr ⟨rfl, fun c => by
          have c2 : 1 ≤ h 238 101 := c.1
          have c3 : h 238 67 ≤ 9998 := c.2.1
          have c4 : ((1 ≤ h 238 (43 + (h 238 92).toNat) ∧ h 238 102 < h 238 7) ∨ (h 238 (43 + (h 238 92).toNat) ≤ 0 ∧ h 238 92 - h 238 106 ≤ h 238 3)) := c.2.2
          rw [show 43 + (h 238 92).toNat = i6 by omega] at c4
          omega⟩)
-- method 266: Model.canLeave(I)Z
set_option maxRecDepth 100000 in
set_option maxHeartbeats 100000000 in
theorem ct_266_236 {L : Nat} {xs : Nat → Int32} {d b c : Nat} {h : hp} {cr : Nat → Nat → Option Nat} {Q : hp_Q} (hcr : CR cr)  (g : GI h) (a0 : Int) (q0_ : -2147483648 ≤ a0 ∧ a0 ≤ 2147483647)  (k : ∀ (h2 : hp) (z0 : Int) , GI h2 → FR [(236, 236, some (0, 0))] h h2 → (0 ≤ z0 ∧ z0 ≤ 1) → (z0 = 1 → 0 ≤ a0 ∧ a0 ≤ 3) → Q (.inl (some (vi z0))) (hp_w h2 cr) b c) : wp (md_xa (L, xs)) (d + 2) 266 (0, [(0, .ref 236), (1, vi a0)], [], hp_w h cr, b, c) Q := by
  have F0 : FR [(236, 236, some (0, 0))] h h := FR.refl
  refine wi_aload_n (i := 0) (x := 236) (nx := 1) (r1 := 0) (r2 := 0) (r3 := 0) rfl rfl ?_
  refine wi_aload_n (i := 0) (x := 236) (nx := 2) (r1 := 0) (r2 := 0) (r3 := 0) rfl rfl ?_
  refine wi_iload_n (i := 1) (e := a0) (nx := 3) (r1 := 0) (r2 := 0) (r3 := 0) rfl rfl ?_
  refine wr_V (k0 := 236) (rest := [.ref 236]) (as := [.ref 236, vi a0]) (nx := 6) (r1 := 242) (r2 := 1) (r3 := 11) rfl rfl rfl (of_decide_eq_true rfl) rfl rfl (by decide) rfl rfl (of_decide_eq_true rfl) (of_decide_eq_true rfl) ?_
  refine wi_iload_n (i := 1) (e := a0) (nx := 1) (r1 := 0) (r2 := 0) (r3 := 0) rfl rfl ?_
  refine wi_i2l (nx := 2) (r1 := 0) (r2 := 0) (r3 := 0) rfl (by omega) ?_
  refine wi_lconst (n := 0) (e := 0) (nx := 3) (r1 := 0) (r2 := 0) (r3 := 0) rfl (by decide) ?_
  refine wi_aload_n (i := 0) (x := 236) (nx := 4) (r1 := 0) (r2 := 0) (r3 := 0) rfl rfl ?_
  refine wr_gr (k0 := 236) (x := 238) (nx := 7) (r1 := 11) (r2 := 13) (r3 := 0) rfl rfl (by decide) rfl ⟨rfl, rfl⟩ rfl ?_
  refine wi_iconst (n := 1) (nx := 8) (r1 := 0) (r2 := 0) (r3 := 0) rfl ?_
  have b1 := gi_b (lo := 0) (hi := 4) g 238 1 rfl
  refine wr_ia (k0 := 238) (a := 1) (f := 1) (x := h 238 1) (nx := 9) (r1 := 0) (r2 := 0) (r3 := 0) rfl (by decide) rfl (by omega) (by omega) (by decide) rfl ?_
  refine wi_iconst (n := 1) (nx := 10) (r1 := 0) (r2 := 0) (r3 := 0) rfl ?_
  refine wr_sub (nx := 11) (r1 := 0) (r2 := 0) (r3 := 0) rfl (fun e2 (fe2 : e2 = (h 238 1) - 1) => ?_)
  refine wi_i2l (nx := 12) (r1 := 0) (r2 := 0) (r3 := 0) rfl (by omega) ?_
  refine wi_S (rest := []) (as := [vl a0, vl 0, vl e2]) (nx := 15) (r1 := 210) (r2 := 19) (r3 := 0) rfl rfl rfl (of_decide_eq_true rfl) rfl rfl (of_decide_eq_true rfl) (of_decide_eq_true rfl) ?_
  refine wi_lload_n (i := 0) (e := a0) (nx := 1) (r1 := 0) (r2 := 0) (r3 := 0) rfl rfl ?_
  refine wi_lload_n (i := 2) (e := 0) (nx := 2) (r1 := 0) (r2 := 0) (r3 := 0) rfl rfl ?_
  refine wi_lcmp (a := a0) (e := 0) (nx := 3) (r1 := 0) (r2 := 0) (r3 := 0) rfl (by omega) (by omega) (fun r3 (fr3 : (r3 = -1 ∧ a0 < 0) ∨ (r3 = 0 ∧ a0 = 0) ∨ (r3 = 1 ∧ 0 < a0)) => ?_)
  refine wi_if (cd := .lt) (nx := 6) (r1 := 17) (r2 := 0) (r3 := 0) rfl (by omega) (fun (q4 : r3 < 0) => ?_) (fun (q4 : ¬ (r3 < 0)) => ?_)
  ·
    refine wi_iconst (n := 0) (nx := 18) (r1 := 0) (r2 := 0) (r3 := 0) rfl ?_
    refine wi_zreturn (nx := 19) (r1 := 0) (r2 := 0) (r3 := 0) rfl rfl (by omega) ?_
    refine wk_i ?_
    refine wi_zreturn (nx := 16) (r1 := 0) (r2 := 0) (r3 := 0) rfl rfl (by omega) ?_
    refine wk_i ?_
    refine wr_V (k0 := 236) (rest := []) (as := [.ref 236, vi 0]) (nx := 9) (r1 := 206) (r2 := 1) (r3 := 11) rfl rfl rfl (of_decide_eq_true rfl) rfl rfl (by decide) rfl rfl (of_decide_eq_true rfl) (of_decide_eq_true rfl) ?_
    refine wi_aload_n (i := 0) (x := 236) (nx := 1) (r1 := 0) (r2 := 0) (r3 := 0) rfl rfl ?_
    refine wi_iload_n (i := 1) (e := 0) (nx := 2) (r1 := 0) (r2 := 0) (r3 := 0) rfl rfl ?_
    refine wi_if (cd := .ne) (nx := 5) (r1 := 9) (r2 := 0) (r3 := 0) rfl (by omega) (fun (q5 : 0 ≠ 0) => by exfalso; omega) (fun (q5 : ¬ (0 ≠ 0)) => ?_)
    refine wi_iconst (n := 1) (nx := 6) (r1 := 0) (r2 := 0) (r3 := 0) rfl ?_
    refine wi_goto (nx := 9) (r1 := 10) (r2 := 0) (r3 := 0) rfl ?_
    refine wi_S (rest := [.ref 236]) (as := [vi 1]) (nx := 13) (r1 := 207) (r2 := 17) (r3 := 0) rfl rfl rfl (of_decide_eq_true rfl) rfl rfl (of_decide_eq_true rfl) (of_decide_eq_true rfl) ?_
    refine wi_iload_n (i := 0) (e := 1) (nx := 1) (r1 := 0) (r2 := 0) (r3 := 0) rfl rfl ?_
    refine wi_if (cd := .eq) (nx := 4) (r1 := 8) (r2 := 0) (r3 := 0) rfl (by omega) (fun (q6 : 1 = 0) => by exfalso; omega) (fun (q6 : ¬ (1 = 0)) => ?_)
    refine wi_iconst (n := 1) (nx := 5) (r1 := 0) (r2 := 0) (r3 := 0) rfl ?_
    refine wi_goto (nx := 8) (r1 := 9) (r2 := 0) (r3 := 0) rfl ?_
    refine wi_ireturn (nx := 10) (r1 := 0) (r2 := 0) (r3 := 0) rfl rfl ?_
    refine wk_i ?_
    refine wr_pf0 (k0 := 236) (x := 1) (bl := 0) (bh := 2) (nx := 16) (r1 := 11) (r2 := 0) (r3 := 0) rfl (by decide) rfl ⟨rfl, rfl⟩ rfl rfl g rfl (by omega) (fun h7 g7 w7 u7 => ?_)
    have F8 := F0.then rfl u7
    refine wi_iload_n (i := 1) (e := 0) (nx := 17) (r1 := 0) (r2 := 0) (r3 := 0) rfl rfl ?_
    refine wi_zreturn (nx := 18) (r1 := 0) (r2 := 0) (r3 := 0) rfl rfl (by omega) ?_
    refine wk_i ?_
    refine wi_if (cd := .eq) (nx := 12) (r1 := 24) (r2 := 0) (r3 := 0) rfl (by omega) (fun (q9 : 0 = 0) => ?_) (fun (q9 : ¬ (0 = 0)) => by exfalso; omega)
    refine wi_iconst (n := 0) (nx := 25) (r1 := 0) (r2 := 0) (r3 := 0) rfl ?_
    refine wi_zreturn (nx := 26) (r1 := 0) (r2 := 0) (r3 := 0) rfl rfl (by omega) ?_
    exact k h7 0 g7 F8 (by omega) (fun _ => by omega)
  ·
    refine wi_lload_n (i := 0) (e := a0) (nx := 7) (r1 := 0) (r2 := 0) (r3 := 0) rfl rfl ?_
    refine wi_lload (i := 4) (e := e2) (nx := 9) (r1 := 0) (r2 := 0) (r3 := 0) rfl rfl ?_
    refine wi_lcmp (a := a0) (e := e2) (nx := 10) (r1 := 0) (r2 := 0) (r3 := 0) rfl (by omega) (by omega) (fun r5 (fr5 : (r5 = -1 ∧ a0 < e2) ∨ (r5 = 0 ∧ a0 = e2) ∨ (r5 = 1 ∧ e2 < a0)) => ?_)
    refine wi_if (cd := .gt) (nx := 13) (r1 := 17) (r2 := 0) (r3 := 0) rfl (by omega) (fun (q6 : 0 < r5) => ?_) (fun (q6 : ¬ (0 < r5)) => ?_)
    ·
      refine wi_iconst (n := 0) (nx := 18) (r1 := 0) (r2 := 0) (r3 := 0) rfl ?_
      refine wi_zreturn (nx := 19) (r1 := 0) (r2 := 0) (r3 := 0) rfl rfl (by omega) ?_
      refine wk_i ?_
      refine wi_zreturn (nx := 16) (r1 := 0) (r2 := 0) (r3 := 0) rfl rfl (by omega) ?_
      refine wk_i ?_
      refine wr_V (k0 := 236) (rest := []) (as := [.ref 236, vi 0]) (nx := 9) (r1 := 206) (r2 := 1) (r3 := 11) rfl rfl rfl (of_decide_eq_true rfl) rfl rfl (by decide) rfl rfl (of_decide_eq_true rfl) (of_decide_eq_true rfl) ?_
      refine wi_aload_n (i := 0) (x := 236) (nx := 1) (r1 := 0) (r2 := 0) (r3 := 0) rfl rfl ?_
      refine wi_iload_n (i := 1) (e := 0) (nx := 2) (r1 := 0) (r2 := 0) (r3 := 0) rfl rfl ?_
      refine wi_if (cd := .ne) (nx := 5) (r1 := 9) (r2 := 0) (r3 := 0) rfl (by omega) (fun (q7 : 0 ≠ 0) => by exfalso; omega) (fun (q7 : ¬ (0 ≠ 0)) => ?_)
      refine wi_iconst (n := 1) (nx := 6) (r1 := 0) (r2 := 0) (r3 := 0) rfl ?_
      refine wi_goto (nx := 9) (r1 := 10) (r2 := 0) (r3 := 0) rfl ?_
      refine wi_S (rest := [.ref 236]) (as := [vi 1]) (nx := 13) (r1 := 207) (r2 := 17) (r3 := 0) rfl rfl rfl (of_decide_eq_true rfl) rfl rfl (of_decide_eq_true rfl) (of_decide_eq_true rfl) ?_
      refine wi_iload_n (i := 0) (e := 1) (nx := 1) (r1 := 0) (r2 := 0) (r3 := 0) rfl rfl ?_
      refine wi_if (cd := .eq) (nx := 4) (r1 := 8) (r2 := 0) (r3 := 0) rfl (by omega) (fun (q8 : 1 = 0) => by exfalso; omega) (fun (q8 : ¬ (1 = 0)) => ?_)
      refine wi_iconst (n := 1) (nx := 5) (r1 := 0) (r2 := 0) (r3 := 0) rfl ?_
      refine wi_goto (nx := 8) (r1 := 9) (r2 := 0) (r3 := 0) rfl ?_
      refine wi_ireturn (nx := 10) (r1 := 0) (r2 := 0) (r3 := 0) rfl rfl ?_
      refine wk_i ?_
      refine wr_pf0 (k0 := 236) (x := 1) (bl := 0) (bh := 2) (nx := 16) (r1 := 11) (r2 := 0) (r3 := 0) rfl (by decide) rfl ⟨rfl, rfl⟩ rfl rfl g rfl (by omega) (fun h9 g9 w9 u9 => ?_)
      have F10 := F0.then rfl u9
      refine wi_iload_n (i := 1) (e := 0) (nx := 17) (r1 := 0) (r2 := 0) (r3 := 0) rfl rfl ?_
      refine wi_zreturn (nx := 18) (r1 := 0) (r2 := 0) (r3 := 0) rfl rfl (by omega) ?_
      refine wk_i ?_
      refine wi_if (cd := .eq) (nx := 12) (r1 := 24) (r2 := 0) (r3 := 0) rfl (by omega) (fun (q11 : 0 = 0) => ?_) (fun (q11 : ¬ (0 = 0)) => by exfalso; omega)
      refine wi_iconst (n := 0) (nx := 25) (r1 := 0) (r2 := 0) (r3 := 0) rfl ?_
      refine wi_zreturn (nx := 26) (r1 := 0) (r2 := 0) (r3 := 0) rfl rfl (by omega) ?_
      exact k h9 0 g9 F10 (by omega) (fun _ => by omega)
    ·
      refine wi_iconst (n := 1) (nx := 14) (r1 := 0) (r2 := 0) (r3 := 0) rfl ?_
      refine wi_goto (nx := 17) (r1 := 18) (r2 := 0) (r3 := 0) rfl ?_
      refine wi_zreturn (nx := 19) (r1 := 0) (r2 := 0) (r3 := 0) rfl rfl (by omega) ?_
      refine wk_i ?_
      refine wi_zreturn (nx := 16) (r1 := 0) (r2 := 0) (r3 := 0) rfl rfl (by omega) ?_
      refine wk_i ?_
      refine wr_V (k0 := 236) (rest := []) (as := [.ref 236, vi 1]) (nx := 9) (r1 := 206) (r2 := 1) (r3 := 11) rfl rfl rfl (of_decide_eq_true rfl) rfl rfl (by decide) rfl rfl (of_decide_eq_true rfl) (of_decide_eq_true rfl) ?_
      refine wi_aload_n (i := 0) (x := 236) (nx := 1) (r1 := 0) (r2 := 0) (r3 := 0) rfl rfl ?_
      refine wi_iload_n (i := 1) (e := 1) (nx := 2) (r1 := 0) (r2 := 0) (r3 := 0) rfl rfl ?_
      refine wi_if (cd := .ne) (nx := 5) (r1 := 9) (r2 := 0) (r3 := 0) rfl (by omega) (fun (q7 : 1 ≠ 0) => ?_) (fun (q7 : ¬ (1 ≠ 0)) => by exfalso; omega)
      refine wi_iconst (n := 0) (nx := 10) (r1 := 0) (r2 := 0) (r3 := 0) rfl ?_
      refine wi_S (rest := [.ref 236]) (as := [vi 0]) (nx := 13) (r1 := 207) (r2 := 17) (r3 := 0) rfl rfl rfl (of_decide_eq_true rfl) rfl rfl (of_decide_eq_true rfl) (of_decide_eq_true rfl) ?_
      refine wi_iload_n (i := 0) (e := 0) (nx := 1) (r1 := 0) (r2 := 0) (r3 := 0) rfl rfl ?_
      refine wi_if (cd := .eq) (nx := 4) (r1 := 8) (r2 := 0) (r3 := 0) rfl (by omega) (fun (q8 : 0 = 0) => ?_) (fun (q8 : ¬ (0 = 0)) => by exfalso; omega)
      refine wi_iconst (n := 0) (nx := 9) (r1 := 0) (r2 := 0) (r3 := 0) rfl ?_
      refine wi_ireturn (nx := 10) (r1 := 0) (r2 := 0) (r3 := 0) rfl rfl ?_
      refine wk_i ?_
      refine wr_pf0 (k0 := 236) (x := 0) (bl := 0) (bh := 2) (nx := 16) (r1 := 11) (r2 := 0) (r3 := 0) rfl (by decide) rfl ⟨rfl, rfl⟩ rfl rfl g rfl (by omega) (fun h9 g9 w9 u9 => ?_)
      have F10 := F0.then rfl u9
      refine wi_iload_n (i := 1) (e := 1) (nx := 17) (r1 := 0) (r2 := 0) (r3 := 0) rfl rfl ?_
      refine wi_zreturn (nx := 18) (r1 := 0) (r2 := 0) (r3 := 0) rfl rfl (by omega) ?_
      refine wk_i ?_
      refine wi_if (cd := .eq) (nx := 12) (r1 := 24) (r2 := 0) (r3 := 0) rfl (by omega) (fun (q11 : 1 = 0) => by exfalso; omega) (fun (q11 : ¬ (1 = 0)) => ?_)
      refine wi_aload_n (i := 0) (x := 236) (nx := 13) (r1 := 0) (r2 := 0) (r3 := 0) rfl rfl ?_
      refine wi_iload_n (i := 1) (e := a0) (nx := 14) (r1 := 0) (r2 := 0) (r3 := 0) rfl rfl ?_
      rcases (show a0 = 0 ∨ a0 = 1 ∨ a0 = 2 ∨ a0 = 3 by omega) with q12 | q12 | q12 | q12
      ·
        rw [q12]
        refine wr_V (k0 := 236) (rest := []) (as := [.ref 236, vi 0]) (nx := 17) (r1 := 267) (r2 := 1) (r3 := 11) rfl rfl rfl (of_decide_eq_true rfl) rfl rfl (by decide) rfl rfl (of_decide_eq_true rfl) (of_decide_eq_true rfl) ?_
        refine ct_267_236_L0 hcr  g9    (fun z14  (fz14 : 0 ≤ z14 ∧ z14 ≤ 1) (p13_0 : z14 = 0 ∨ 1 ≤ (h9 238 98)) (p13_1 : z14 = 0 ∨ (h9 238 67) ≤ 9998) (p13_2 : z14 = 0 ∨ (1 ≤ (h9 238 (43 + (h9 238 74).toNat)) ∧ (h9 238 102) < (h9 238 7)) ∨ ((h9 238 (43 + (h9 238 74).toNat)) ≤ 0 ∧ (h9 238 74) - (h9 238 106) ≤ (h9 238 3))) y13_0 => ?_)
        have b15 := gi_b (lo := 0) (hi := 6) g 238 98 rfl
        have e16 : h9 238 98 = h 238 98 := (u9 238 98 rfl)
        have b17 := gi_b (lo := 0) (hi := 9999) g 238 67 rfl
        have e18 : h9 238 67 = h 238 67 := (u9 238 67 rfl)
        have b19 := gi_b (lo := 0) (hi := 11) g 238 74 rfl
        have e20 : h9 238 74 = h 238 74 := (u9 238 74 rfl)
        obtain ⟨i21, ei21⟩ : ∃ q : Nat, (43 + h 238 74) = (q : Int) := ⟨(43 + h 238 74).toNat, by omega⟩
        have b22 := gi_b (lo := 0) (hi := 999) g 238 i21 (gi_rg 43 12 (fun _ => rfl) (by decide +kernel) (by omega))
        have e23 : h9 238 (43 + (h9 238 74).toNat) = h 238 i21 := by rw [show 43 + (h9 238 74).toNat = i21 by omega]; exact (u9 238 i21 (fn_a (by omega) fn_0))
        have b24 := gi_b (lo := 0) (hi := 3) g 238 102 rfl
        have e25 : h9 238 102 = h 238 102 := (u9 238 102 rfl)
        have b26 := gi_b (lo := 0) (hi := 3) g 238 7 rfl
        have e27 : h9 238 7 = h 238 7 := (u9 238 7 rfl)
        have b28 := gi_b (lo := 0) (hi := 12) g 238 106 rfl
        have e29 : h9 238 106 = h 238 106 := (u9 238 106 rfl)
        have b30 := gi_b (lo := 0) (hi := 999) g 238 3 rfl
        have e31 : h9 238 3 = h 238 3 := (u9 238 3 rfl)
        refine wk_i ?_
        refine wi_if (cd := .eq) (nx := 20) (r1 := 24) (r2 := 0) (r3 := 0) rfl (by omega) (fun (q32 : z14 = 0) => ?_) (fun (q32 : ¬ (z14 = 0)) => ?_)
        ·
          refine wi_iconst (n := 0) (nx := 25) (r1 := 0) (r2 := 0) (r3 := 0) rfl ?_
          refine wi_zreturn (nx := 26) (r1 := 0) (r2 := 0) (r3 := 0) rfl rfl (by omega) ?_
          exact k h9 0 g9 F10 (by omega) (fun _ => by omega)
        ·
          refine wi_iconst (n := 1) (nx := 21) (r1 := 0) (r2 := 0) (r3 := 0) rfl ?_
          refine wi_goto (nx := 24) (r1 := 25) (r2 := 0) (r3 := 0) rfl ?_
          refine wi_zreturn (nx := 26) (r1 := 0) (r2 := 0) (r3 := 0) rfl rfl (by omega) ?_
          exact k h9 1 g9 F10 (by omega) (fun _ => by omega)
      ·
        rw [q12]
        refine wr_V (k0 := 236) (rest := []) (as := [.ref 236, vi 1]) (nx := 17) (r1 := 267) (r2 := 1) (r3 := 11) rfl rfl rfl (of_decide_eq_true rfl) rfl rfl (by decide) rfl rfl (of_decide_eq_true rfl) (of_decide_eq_true rfl) ?_
        refine ct_267_236_L1 hcr  g9    (fun z14  (fz14 : 0 ≤ z14 ∧ z14 ≤ 1) (p13_0 : z14 = 0 ∨ 1 ≤ (h9 238 99)) (p13_1 : z14 = 0 ∨ (h9 238 67) ≤ 9998) (p13_2 : z14 = 0 ∨ (1 ≤ (h9 238 (43 + (h9 238 80).toNat)) ∧ (h9 238 102) < (h9 238 7)) ∨ ((h9 238 (43 + (h9 238 80).toNat)) ≤ 0 ∧ (h9 238 80) - (h9 238 106) ≤ (h9 238 3))) y13_0 => ?_)
        have b15 := gi_b (lo := 0) (hi := 6) g 238 99 rfl
        have e16 : h9 238 99 = h 238 99 := (u9 238 99 rfl)
        have b17 := gi_b (lo := 0) (hi := 9999) g 238 67 rfl
        have e18 : h9 238 67 = h 238 67 := (u9 238 67 rfl)
        have b19 := gi_b (lo := 0) (hi := 11) g 238 80 rfl
        have e20 : h9 238 80 = h 238 80 := (u9 238 80 rfl)
        obtain ⟨i21, ei21⟩ : ∃ q : Nat, (43 + h 238 80) = (q : Int) := ⟨(43 + h 238 80).toNat, by omega⟩
        have b22 := gi_b (lo := 0) (hi := 999) g 238 i21 (gi_rg 43 12 (fun _ => rfl) (by decide +kernel) (by omega))
        have e23 : h9 238 (43 + (h9 238 80).toNat) = h 238 i21 := by rw [show 43 + (h9 238 80).toNat = i21 by omega]; exact (u9 238 i21 (fn_a (by omega) fn_0))
        have b24 := gi_b (lo := 0) (hi := 3) g 238 102 rfl
        have e25 : h9 238 102 = h 238 102 := (u9 238 102 rfl)
        have b26 := gi_b (lo := 0) (hi := 3) g 238 7 rfl
        have e27 : h9 238 7 = h 238 7 := (u9 238 7 rfl)
        have b28 := gi_b (lo := 0) (hi := 12) g 238 106 rfl
        have e29 : h9 238 106 = h 238 106 := (u9 238 106 rfl)
        have b30 := gi_b (lo := 0) (hi := 999) g 238 3 rfl
        have e31 : h9 238 3 = h 238 3 := (u9 238 3 rfl)
        refine wk_i ?_
        refine wi_if (cd := .eq) (nx := 20) (r1 := 24) (r2 := 0) (r3 := 0) rfl (by omega) (fun (q32 : z14 = 0) => ?_) (fun (q32 : ¬ (z14 = 0)) => ?_)
        ·
          refine wi_iconst (n := 0) (nx := 25) (r1 := 0) (r2 := 0) (r3 := 0) rfl ?_
          refine wi_zreturn (nx := 26) (r1 := 0) (r2 := 0) (r3 := 0) rfl rfl (by omega) ?_
          exact k h9 0 g9 F10 (by omega) (fun _ => by omega)
        ·
          refine wi_iconst (n := 1) (nx := 21) (r1 := 0) (r2 := 0) (r3 := 0) rfl ?_
          refine wi_goto (nx := 24) (r1 := 25) (r2 := 0) (r3 := 0) rfl ?_
          refine wi_zreturn (nx := 26) (r1 := 0) (r2 := 0) (r3 := 0) rfl rfl (by omega) ?_
          exact k h9 1 g9 F10 (by omega) (fun _ => by omega)
      ·
        rw [q12]
        refine wr_V (k0 := 236) (rest := []) (as := [.ref 236, vi 2]) (nx := 17) (r1 := 267) (r2 := 1) (r3 := 11) rfl rfl rfl (of_decide_eq_true rfl) rfl rfl (by decide) rfl rfl (of_decide_eq_true rfl) (of_decide_eq_true rfl) ?_
        refine ct_267_236_L2 hcr  g9    (fun z14  (fz14 : 0 ≤ z14 ∧ z14 ≤ 1) (p13_0 : z14 = 0 ∨ 1 ≤ (h9 238 100)) (p13_1 : z14 = 0 ∨ (h9 238 67) ≤ 9998) (p13_2 : z14 = 0 ∨ (1 ≤ (h9 238 (43 + (h9 238 86).toNat)) ∧ (h9 238 102) < (h9 238 7)) ∨ ((h9 238 (43 + (h9 238 86).toNat)) ≤ 0 ∧ (h9 238 86) - (h9 238 106) ≤ (h9 238 3))) y13_0 => ?_)
        have b15 := gi_b (lo := 0) (hi := 6) g 238 100 rfl
        have e16 : h9 238 100 = h 238 100 := (u9 238 100 rfl)
        have b17 := gi_b (lo := 0) (hi := 9999) g 238 67 rfl
        have e18 : h9 238 67 = h 238 67 := (u9 238 67 rfl)
        have b19 := gi_b (lo := 0) (hi := 11) g 238 86 rfl
        have e20 : h9 238 86 = h 238 86 := (u9 238 86 rfl)
        obtain ⟨i21, ei21⟩ : ∃ q : Nat, (43 + h 238 86) = (q : Int) := ⟨(43 + h 238 86).toNat, by omega⟩
        have b22 := gi_b (lo := 0) (hi := 999) g 238 i21 (gi_rg 43 12 (fun _ => rfl) (by decide +kernel) (by omega))
        have e23 : h9 238 (43 + (h9 238 86).toNat) = h 238 i21 := by rw [show 43 + (h9 238 86).toNat = i21 by omega]; exact (u9 238 i21 (fn_a (by omega) fn_0))
        have b24 := gi_b (lo := 0) (hi := 3) g 238 102 rfl
        have e25 : h9 238 102 = h 238 102 := (u9 238 102 rfl)
        have b26 := gi_b (lo := 0) (hi := 3) g 238 7 rfl
        have e27 : h9 238 7 = h 238 7 := (u9 238 7 rfl)
        have b28 := gi_b (lo := 0) (hi := 12) g 238 106 rfl
        have e29 : h9 238 106 = h 238 106 := (u9 238 106 rfl)
        have b30 := gi_b (lo := 0) (hi := 999) g 238 3 rfl
        have e31 : h9 238 3 = h 238 3 := (u9 238 3 rfl)
        refine wk_i ?_
        refine wi_if (cd := .eq) (nx := 20) (r1 := 24) (r2 := 0) (r3 := 0) rfl (by omega) (fun (q32 : z14 = 0) => ?_) (fun (q32 : ¬ (z14 = 0)) => ?_)
        ·
          refine wi_iconst (n := 0) (nx := 25) (r1 := 0) (r2 := 0) (r3 := 0) rfl ?_
          refine wi_zreturn (nx := 26) (r1 := 0) (r2 := 0) (r3 := 0) rfl rfl (by omega) ?_
          exact k h9 0 g9 F10 (by omega) (fun _ => by omega)
        ·
          refine wi_iconst (n := 1) (nx := 21) (r1 := 0) (r2 := 0) (r3 := 0) rfl ?_
          refine wi_goto (nx := 24) (r1 := 25) (r2 := 0) (r3 := 0) rfl ?_
          refine wi_zreturn (nx := 26) (r1 := 0) (r2 := 0) (r3 := 0) rfl rfl (by omega) ?_
          exact k h9 1 g9 F10 (by omega) (fun _ => by omega)
      ·
        rw [q12]
        refine wr_V (k0 := 236) (rest := []) (as := [.ref 236, vi 3]) (nx := 17) (r1 := 267) (r2 := 1) (r3 := 11) rfl rfl rfl (of_decide_eq_true rfl) rfl rfl (by decide) rfl rfl (of_decide_eq_true rfl) (of_decide_eq_true rfl) ?_
        refine ct_267_236_L3 hcr  g9    (fun z14  (fz14 : 0 ≤ z14 ∧ z14 ≤ 1) (p13_0 : z14 = 0 ∨ 1 ≤ (h9 238 101)) (p13_1 : z14 = 0 ∨ (h9 238 67) ≤ 9998) (p13_2 : z14 = 0 ∨ (1 ≤ (h9 238 (43 + (h9 238 92).toNat)) ∧ (h9 238 102) < (h9 238 7)) ∨ ((h9 238 (43 + (h9 238 92).toNat)) ≤ 0 ∧ (h9 238 92) - (h9 238 106) ≤ (h9 238 3))) y13_0 => ?_)
        have b15 := gi_b (lo := 0) (hi := 6) g 238 101 rfl
        have e16 : h9 238 101 = h 238 101 := (u9 238 101 rfl)
        have b17 := gi_b (lo := 0) (hi := 9999) g 238 67 rfl
        have e18 : h9 238 67 = h 238 67 := (u9 238 67 rfl)
        have b19 := gi_b (lo := 0) (hi := 11) g 238 92 rfl
        have e20 : h9 238 92 = h 238 92 := (u9 238 92 rfl)
        obtain ⟨i21, ei21⟩ : ∃ q : Nat, (43 + h 238 92) = (q : Int) := ⟨(43 + h 238 92).toNat, by omega⟩
        have b22 := gi_b (lo := 0) (hi := 999) g 238 i21 (gi_rg 43 12 (fun _ => rfl) (by decide +kernel) (by omega))
        have e23 : h9 238 (43 + (h9 238 92).toNat) = h 238 i21 := by rw [show 43 + (h9 238 92).toNat = i21 by omega]; exact (u9 238 i21 (fn_a (by omega) fn_0))
        have b24 := gi_b (lo := 0) (hi := 3) g 238 102 rfl
        have e25 : h9 238 102 = h 238 102 := (u9 238 102 rfl)
        have b26 := gi_b (lo := 0) (hi := 3) g 238 7 rfl
        have e27 : h9 238 7 = h 238 7 := (u9 238 7 rfl)
        have b28 := gi_b (lo := 0) (hi := 12) g 238 106 rfl
        have e29 : h9 238 106 = h 238 106 := (u9 238 106 rfl)
        have b30 := gi_b (lo := 0) (hi := 999) g 238 3 rfl
        have e31 : h9 238 3 = h 238 3 := (u9 238 3 rfl)
        refine wk_i ?_
        refine wi_if (cd := .eq) (nx := 20) (r1 := 24) (r2 := 0) (r3 := 0) rfl (by omega) (fun (q32 : z14 = 0) => ?_) (fun (q32 : ¬ (z14 = 0)) => ?_)
        ·
          refine wi_iconst (n := 0) (nx := 25) (r1 := 0) (r2 := 0) (r3 := 0) rfl ?_
          refine wi_zreturn (nx := 26) (r1 := 0) (r2 := 0) (r3 := 0) rfl rfl (by omega) ?_
          exact k h9 0 g9 F10 (by omega) (fun _ => by omega)
        ·
          refine wi_iconst (n := 1) (nx := 21) (r1 := 0) (r2 := 0) (r3 := 0) rfl ?_
          refine wi_goto (nx := 24) (r1 := 25) (r2 := 0) (r3 := 0) rfl ?_
          refine wi_zreturn (nx := 26) (r1 := 0) (r2 := 0) (r3 := 0) rfl rfl (by omega) ?_
          exact k h9 1 g9 F10 (by omega) (fun _ => by omega)
-- method 240: Model.changeCost(I)I
set_option maxRecDepth 100000 in
set_option maxHeartbeats 100000000 in
theorem ct_240_236 {L : Nat} {xs : Nat → Int32} {d b c : Nat} {h : hp} {cr : Nat → Nat → Option Nat} {Q : hp_Q} (hcr : CR cr)  (g : GI h) (a0 : Int) (q0_ : -2147483648 ≤ a0 ∧ a0 ≤ 2147483647)  (k : ∀ (h2 : hp) (z0 : Int) , GI h2 → FR [(236, 236, some (0, 0))] h h2 → (0 ≤ z0 ∧ z0 ≤ 999) → ((0 ≤ a0 ∧ a0 < h 238 0 ∧ h2 236 0 = 0) ∨ ((a0 < 0 ∨ h 238 0 ≤ a0) ∧ h2 236 0 = 1)) → (0 ≤ a0 → a0 < h 238 0 → z0 = h 238 (10 + a0.toNat)) → Q (.inl (some (vi z0))) (hp_w h2 cr) b c) : wp (md_xa (L, xs)) (d + 2) 240 (0, [(0, .ref 236), (1, vi a0)], [], hp_w h cr, b, c) Q := by
  have F0 : FR [(236, 236, some (0, 0))] h h := FR.refl
  refine wi_aload_n (i := 0) (x := 236) (nx := 1) (r1 := 0) (r2 := 0) (r3 := 0) rfl rfl ?_
  refine wi_iload_n (i := 1) (e := a0) (nx := 2) (r1 := 0) (r2 := 0) (r3 := 0) rfl rfl ?_
  refine wi_i2l (nx := 3) (r1 := 0) (r2 := 0) (r3 := 0) rfl (by omega) ?_
  refine wi_lconst (n := 0) (e := 0) (nx := 4) (r1 := 0) (r2 := 0) (r3 := 0) rfl (by decide) ?_
  refine wi_aload_n (i := 0) (x := 236) (nx := 5) (r1 := 0) (r2 := 0) (r3 := 0) rfl rfl ?_
  refine wr_gr (k0 := 236) (x := 238) (nx := 8) (r1 := 11) (r2 := 13) (r3 := 0) rfl rfl (by decide) rfl ⟨rfl, rfl⟩ rfl ?_
  refine wi_iconst (n := 0) (nx := 9) (r1 := 0) (r2 := 0) (r3 := 0) rfl ?_
  have b1 := gi_b (lo := 0) (hi := 5) g 238 0 rfl
  refine wr_ia (k0 := 238) (a := 0) (f := 0) (x := h 238 0) (nx := 10) (r1 := 0) (r2 := 0) (r3 := 0) rfl (by decide) rfl (by omega) (by omega) (by decide) rfl ?_
  refine wi_iconst (n := 1) (nx := 11) (r1 := 0) (r2 := 0) (r3 := 0) rfl ?_
  refine wr_sub (nx := 12) (r1 := 0) (r2 := 0) (r3 := 0) rfl (fun e2 (fe2 : e2 = (h 238 0) - 1) => ?_)
  refine wi_i2l (nx := 13) (r1 := 0) (r2 := 0) (r3 := 0) rfl (by omega) ?_
  refine wi_S (rest := [.ref 236]) (as := [vl a0, vl 0, vl e2]) (nx := 16) (r1 := 210) (r2 := 19) (r3 := 0) rfl rfl rfl (of_decide_eq_true rfl) rfl rfl (of_decide_eq_true rfl) (of_decide_eq_true rfl) ?_
  refine wi_lload_n (i := 0) (e := a0) (nx := 1) (r1 := 0) (r2 := 0) (r3 := 0) rfl rfl ?_
  refine wi_lload_n (i := 2) (e := 0) (nx := 2) (r1 := 0) (r2 := 0) (r3 := 0) rfl rfl ?_
  refine wi_lcmp (a := a0) (e := 0) (nx := 3) (r1 := 0) (r2 := 0) (r3 := 0) rfl (by omega) (by omega) (fun r3 (fr3 : (r3 = -1 ∧ a0 < 0) ∨ (r3 = 0 ∧ a0 = 0) ∨ (r3 = 1 ∧ 0 < a0)) => ?_)
  refine wi_if (cd := .lt) (nx := 6) (r1 := 17) (r2 := 0) (r3 := 0) rfl (by omega) (fun (q4 : r3 < 0) => ?_) (fun (q4 : ¬ (r3 < 0)) => ?_)
  ·
    refine wi_iconst (n := 0) (nx := 18) (r1 := 0) (r2 := 0) (r3 := 0) rfl ?_
    refine wi_zreturn (nx := 19) (r1 := 0) (r2 := 0) (r3 := 0) rfl rfl (by omega) ?_
    refine wk_i ?_
    refine wr_V (k0 := 236) (rest := []) (as := [.ref 236, vi 0]) (nx := 19) (r1 := 206) (r2 := 1) (r3 := 11) rfl rfl rfl (of_decide_eq_true rfl) rfl rfl (by decide) rfl rfl (of_decide_eq_true rfl) (of_decide_eq_true rfl) ?_
    refine wi_aload_n (i := 0) (x := 236) (nx := 1) (r1 := 0) (r2 := 0) (r3 := 0) rfl rfl ?_
    refine wi_iload_n (i := 1) (e := 0) (nx := 2) (r1 := 0) (r2 := 0) (r3 := 0) rfl rfl ?_
    refine wi_if (cd := .ne) (nx := 5) (r1 := 9) (r2 := 0) (r3 := 0) rfl (by omega) (fun (q5 : 0 ≠ 0) => by exfalso; omega) (fun (q5 : ¬ (0 ≠ 0)) => ?_)
    refine wi_iconst (n := 1) (nx := 6) (r1 := 0) (r2 := 0) (r3 := 0) rfl ?_
    refine wi_goto (nx := 9) (r1 := 10) (r2 := 0) (r3 := 0) rfl ?_
    refine wi_S (rest := [.ref 236]) (as := [vi 1]) (nx := 13) (r1 := 207) (r2 := 17) (r3 := 0) rfl rfl rfl (of_decide_eq_true rfl) rfl rfl (of_decide_eq_true rfl) (of_decide_eq_true rfl) ?_
    refine wi_iload_n (i := 0) (e := 1) (nx := 1) (r1 := 0) (r2 := 0) (r3 := 0) rfl rfl ?_
    refine wi_if (cd := .eq) (nx := 4) (r1 := 8) (r2 := 0) (r3 := 0) rfl (by omega) (fun (q6 : 1 = 0) => by exfalso; omega) (fun (q6 : ¬ (1 = 0)) => ?_)
    refine wi_iconst (n := 1) (nx := 5) (r1 := 0) (r2 := 0) (r3 := 0) rfl ?_
    refine wi_goto (nx := 8) (r1 := 9) (r2 := 0) (r3 := 0) rfl ?_
    refine wi_ireturn (nx := 10) (r1 := 0) (r2 := 0) (r3 := 0) rfl rfl ?_
    refine wk_i ?_
    refine wr_pf0 (k0 := 236) (x := 1) (bl := 0) (bh := 2) (nx := 16) (r1 := 11) (r2 := 0) (r3 := 0) rfl (by decide) rfl ⟨rfl, rfl⟩ rfl rfl g rfl (by omega) (fun h7 g7 w7 u7 => ?_)
    have F8 := F0.then rfl u7
    refine wi_iload_n (i := 1) (e := 0) (nx := 17) (r1 := 0) (r2 := 0) (r3 := 0) rfl rfl ?_
    refine wi_zreturn (nx := 18) (r1 := 0) (r2 := 0) (r3 := 0) rfl rfl (by omega) ?_
    refine wk_i ?_
    refine wi_if (cd := .eq) (nx := 22) (r1 := 34) (r2 := 0) (r3 := 0) rfl (by omega) (fun (q9 : 0 = 0) => ?_) (fun (q9 : ¬ (0 = 0)) => by exfalso; omega)
    refine wi_iconst (n := 0) (nx := 35) (r1 := 0) (r2 := 0) (r3 := 0) rfl ?_
    refine wi_ireturn (nx := 36) (r1 := 0) (r2 := 0) (r3 := 0) rfl rfl ?_
    have e10 : h7 236 0 = 1 := w7
    exact k h7 0 g7 F8 (by omega) (show (0 ≤ a0 ∧ a0 < (h 238 0) ∧ (h7 236 0) = 0) ∨ ((a0 < 0 ∨ (h 238 0) ≤ a0) ∧ (h7 236 0) = 1) by omega) (fun e1 e2 => by exfalso; omega)
  ·
    refine wi_lload_n (i := 0) (e := a0) (nx := 7) (r1 := 0) (r2 := 0) (r3 := 0) rfl rfl ?_
    refine wi_lload (i := 4) (e := e2) (nx := 9) (r1 := 0) (r2 := 0) (r3 := 0) rfl rfl ?_
    refine wi_lcmp (a := a0) (e := e2) (nx := 10) (r1 := 0) (r2 := 0) (r3 := 0) rfl (by omega) (by omega) (fun r5 (fr5 : (r5 = -1 ∧ a0 < e2) ∨ (r5 = 0 ∧ a0 = e2) ∨ (r5 = 1 ∧ e2 < a0)) => ?_)
    refine wi_if (cd := .gt) (nx := 13) (r1 := 17) (r2 := 0) (r3 := 0) rfl (by omega) (fun (q6 : 0 < r5) => ?_) (fun (q6 : ¬ (0 < r5)) => ?_)
    ·
      refine wi_iconst (n := 0) (nx := 18) (r1 := 0) (r2 := 0) (r3 := 0) rfl ?_
      refine wi_zreturn (nx := 19) (r1 := 0) (r2 := 0) (r3 := 0) rfl rfl (by omega) ?_
      refine wk_i ?_
      refine wr_V (k0 := 236) (rest := []) (as := [.ref 236, vi 0]) (nx := 19) (r1 := 206) (r2 := 1) (r3 := 11) rfl rfl rfl (of_decide_eq_true rfl) rfl rfl (by decide) rfl rfl (of_decide_eq_true rfl) (of_decide_eq_true rfl) ?_
      refine wi_aload_n (i := 0) (x := 236) (nx := 1) (r1 := 0) (r2 := 0) (r3 := 0) rfl rfl ?_
      refine wi_iload_n (i := 1) (e := 0) (nx := 2) (r1 := 0) (r2 := 0) (r3 := 0) rfl rfl ?_
      refine wi_if (cd := .ne) (nx := 5) (r1 := 9) (r2 := 0) (r3 := 0) rfl (by omega) (fun (q7 : 0 ≠ 0) => by exfalso; omega) (fun (q7 : ¬ (0 ≠ 0)) => ?_)
      refine wi_iconst (n := 1) (nx := 6) (r1 := 0) (r2 := 0) (r3 := 0) rfl ?_
      refine wi_goto (nx := 9) (r1 := 10) (r2 := 0) (r3 := 0) rfl ?_
      refine wi_S (rest := [.ref 236]) (as := [vi 1]) (nx := 13) (r1 := 207) (r2 := 17) (r3 := 0) rfl rfl rfl (of_decide_eq_true rfl) rfl rfl (of_decide_eq_true rfl) (of_decide_eq_true rfl) ?_
      refine wi_iload_n (i := 0) (e := 1) (nx := 1) (r1 := 0) (r2 := 0) (r3 := 0) rfl rfl ?_
      refine wi_if (cd := .eq) (nx := 4) (r1 := 8) (r2 := 0) (r3 := 0) rfl (by omega) (fun (q8 : 1 = 0) => by exfalso; omega) (fun (q8 : ¬ (1 = 0)) => ?_)
      refine wi_iconst (n := 1) (nx := 5) (r1 := 0) (r2 := 0) (r3 := 0) rfl ?_
      refine wi_goto (nx := 8) (r1 := 9) (r2 := 0) (r3 := 0) rfl ?_
      refine wi_ireturn (nx := 10) (r1 := 0) (r2 := 0) (r3 := 0) rfl rfl ?_
      refine wk_i ?_
      refine wr_pf0 (k0 := 236) (x := 1) (bl := 0) (bh := 2) (nx := 16) (r1 := 11) (r2 := 0) (r3 := 0) rfl (by decide) rfl ⟨rfl, rfl⟩ rfl rfl g rfl (by omega) (fun h9 g9 w9 u9 => ?_)
      have F10 := F0.then rfl u9
      refine wi_iload_n (i := 1) (e := 0) (nx := 17) (r1 := 0) (r2 := 0) (r3 := 0) rfl rfl ?_
      refine wi_zreturn (nx := 18) (r1 := 0) (r2 := 0) (r3 := 0) rfl rfl (by omega) ?_
      refine wk_i ?_
      refine wi_if (cd := .eq) (nx := 22) (r1 := 34) (r2 := 0) (r3 := 0) rfl (by omega) (fun (q11 : 0 = 0) => ?_) (fun (q11 : ¬ (0 = 0)) => by exfalso; omega)
      refine wi_iconst (n := 0) (nx := 35) (r1 := 0) (r2 := 0) (r3 := 0) rfl ?_
      refine wi_ireturn (nx := 36) (r1 := 0) (r2 := 0) (r3 := 0) rfl rfl ?_
      have e12 : h9 236 0 = 1 := w9
      exact k h9 0 g9 F10 (by omega) (show (0 ≤ a0 ∧ a0 < (h 238 0) ∧ (h9 236 0) = 0) ∨ ((a0 < 0 ∨ (h 238 0) ≤ a0) ∧ (h9 236 0) = 1) by omega) (fun e1 e2 => by exfalso; omega)
    ·
      refine wi_iconst (n := 1) (nx := 14) (r1 := 0) (r2 := 0) (r3 := 0) rfl ?_
      refine wi_goto (nx := 17) (r1 := 18) (r2 := 0) (r3 := 0) rfl ?_
      refine wi_zreturn (nx := 19) (r1 := 0) (r2 := 0) (r3 := 0) rfl rfl (by omega) ?_
      refine wk_i ?_
      refine wr_V (k0 := 236) (rest := []) (as := [.ref 236, vi 1]) (nx := 19) (r1 := 206) (r2 := 1) (r3 := 11) rfl rfl rfl (of_decide_eq_true rfl) rfl rfl (by decide) rfl rfl (of_decide_eq_true rfl) (of_decide_eq_true rfl) ?_
      refine wi_aload_n (i := 0) (x := 236) (nx := 1) (r1 := 0) (r2 := 0) (r3 := 0) rfl rfl ?_
      refine wi_iload_n (i := 1) (e := 1) (nx := 2) (r1 := 0) (r2 := 0) (r3 := 0) rfl rfl ?_
      refine wi_if (cd := .ne) (nx := 5) (r1 := 9) (r2 := 0) (r3 := 0) rfl (by omega) (fun (q7 : 1 ≠ 0) => ?_) (fun (q7 : ¬ (1 ≠ 0)) => by exfalso; omega)
      refine wi_iconst (n := 0) (nx := 10) (r1 := 0) (r2 := 0) (r3 := 0) rfl ?_
      refine wi_S (rest := [.ref 236]) (as := [vi 0]) (nx := 13) (r1 := 207) (r2 := 17) (r3 := 0) rfl rfl rfl (of_decide_eq_true rfl) rfl rfl (of_decide_eq_true rfl) (of_decide_eq_true rfl) ?_
      refine wi_iload_n (i := 0) (e := 0) (nx := 1) (r1 := 0) (r2 := 0) (r3 := 0) rfl rfl ?_
      refine wi_if (cd := .eq) (nx := 4) (r1 := 8) (r2 := 0) (r3 := 0) rfl (by omega) (fun (q8 : 0 = 0) => ?_) (fun (q8 : ¬ (0 = 0)) => by exfalso; omega)
      refine wi_iconst (n := 0) (nx := 9) (r1 := 0) (r2 := 0) (r3 := 0) rfl ?_
      refine wi_ireturn (nx := 10) (r1 := 0) (r2 := 0) (r3 := 0) rfl rfl ?_
      refine wk_i ?_
      refine wr_pf0 (k0 := 236) (x := 0) (bl := 0) (bh := 2) (nx := 16) (r1 := 11) (r2 := 0) (r3 := 0) rfl (by decide) rfl ⟨rfl, rfl⟩ rfl rfl g rfl (by omega) (fun h9 g9 w9 u9 => ?_)
      have F10 := F0.then rfl u9
      refine wi_iload_n (i := 1) (e := 1) (nx := 17) (r1 := 0) (r2 := 0) (r3 := 0) rfl rfl ?_
      refine wi_zreturn (nx := 18) (r1 := 0) (r2 := 0) (r3 := 0) rfl rfl (by omega) ?_
      refine wk_i ?_
      refine wi_if (cd := .eq) (nx := 22) (r1 := 34) (r2 := 0) (r3 := 0) rfl (by omega) (fun (q11 : 1 = 0) => by exfalso; omega) (fun (q11 : ¬ (1 = 0)) => ?_)
      refine wi_aload_n (i := 0) (x := 236) (nx := 23) (r1 := 0) (r2 := 0) (r3 := 0) rfl rfl ?_
      refine wr_gr (k0 := 236) (x := 238) (nx := 26) (r1 := 11) (r2 := 13) (r3 := 0) rfl rfl (by decide) rfl ⟨rfl, rfl⟩ rfl ?_
      refine wi_bipush (n := 10) (nx := 28) (r1 := 0) (r2 := 0) (r3 := 0) rfl (by decide) ?_
      refine wi_iload_n (i := 1) (e := a0) (nx := 29) (r1 := 0) (r2 := 0) (r3 := 0) rfl rfl ?_
      refine wr_add (nx := 30) (r1 := 0) (r2 := 0) (r3 := 0) rfl (fun e12 (fe12 : e12 = 10 + a0) => ?_)
      obtain ⟨i13, ei13⟩ : ∃ q : Nat, e12 = (q : Int) := ⟨(e12).toNat, by omega⟩
      have b14 := gi_b (lo := 0) (hi := 999) g 238 i13 (gi_rg 10 5 (fun _ => rfl) (by decide +kernel) (by omega))
      refine wr_ia (k0 := 238) (a := e12) (f := i13) (x := h 238 i13) (nx := 31) (r1 := 0) (r2 := 0) (r3 := 0) rfl (by decide) rfl (by omega) (by omega) (by decide) (u9 238 i13 (fn_a (by omega) fn_0)) ?_
      refine wi_goto (nx := 34) (r1 := 35) (r2 := 0) (r3 := 0) rfl ?_
      refine wi_ireturn (nx := 36) (r1 := 0) (r2 := 0) (r3 := 0) rfl rfl ?_
      have e15 : h9 236 0 = 0 := w9
      exact k h9 (h 238 i13) g9 F10 (by omega) (show (0 ≤ a0 ∧ a0 < (h 238 0) ∧ (h9 236 0) = 0) ∨ ((a0 < 0 ∨ (h 238 0) ≤ a0) ∧ (h9 236 0) = 1) by omega) (fun _ _ => (show h 238 i13 = h 238 (10 + a0.toNat) by rw [show (10 + a0.toNat) = i13 by omega]))
-- method 272: Model.changes()I
set_option maxRecDepth 100000 in
set_option maxHeartbeats 100000000 in
theorem ct_272_236 {L : Nat} {xs : Nat → Int32} {d b c : Nat} {h : hp} {cr : Nat → Nat → Option Nat} {Q : hp_Q} (hcr : CR cr)  (g : GI h)    (k : ∀ (h2 : hp) (z0 : Int) , GI h2 → FR [(236, 236, some (0, 0))] h h2 → (-2147483648 ≤ z0 ∧ z0 ≤ 2147483647) → Q (.inl (some (vi z0))) (hp_w h2 cr) b c) : wp (md_xa (L, xs)) (d + 1) 272 (0, [(0, .ref 236)], [], hp_w h cr, b, c) Q := by
  have F0 : FR [(236, 236, some (0, 0))] h h := FR.refl
  refine wi_aload_n (i := 0) (x := 236) (nx := 1) (r1 := 0) (r2 := 0) (r3 := 0) rfl rfl ?_
  refine wi_bipush (n := 70) (nx := 3) (r1 := 0) (r2 := 0) (r3 := 0) rfl (by decide) ?_
  refine wr_V (k0 := 236) (rest := []) (as := [.ref 236, vi 70]) (nx := 6) (r1 := 269) (r2 := 1) (r3 := 11) rfl rfl rfl (of_decide_eq_true rfl) rfl rfl (by decide) rfl rfl (of_decide_eq_true rfl) (of_decide_eq_true rfl) ?_
  refine wi_aload_n (i := 0) (x := 236) (nx := 1) (r1 := 0) (r2 := 0) (r3 := 0) rfl rfl ?_
  refine wi_iconst (n := 0) (nx := 2) (r1 := 0) (r2 := 0) (r3 := 0) rfl ?_
  refine wr_pf0 (k0 := 236) (x := 0) (bl := 0) (bh := 2) (nx := 5) (r1 := 11) (r2 := 0) (r3 := 0) rfl (by decide) rfl ⟨rfl, rfl⟩ rfl rfl g rfl (by omega) (fun h1 g1 w1 u1 => ?_)
  have F2 := F0.then rfl u1
  refine wi_aload_n (i := 0) (x := 236) (nx := 6) (r1 := 0) (r2 := 0) (r3 := 0) rfl rfl ?_
  refine wr_gr (k0 := 236) (x := 238) (nx := 9) (r1 := 11) (r2 := 13) (r3 := 0) rfl rfl (by decide) rfl ⟨rfl, rfl⟩ rfl ?_
  refine wi_iload_n (i := 1) (e := 70) (nx := 10) (r1 := 0) (r2 := 0) (r3 := 0) rfl rfl ?_
  have b3 := gi_b (lo := -2147483648) (hi := 2147483647) g 238 70 rfl
  refine wr_ia (k0 := 238) (a := 70) (f := 70) (x := h 238 70) (nx := 11) (r1 := 0) (r2 := 0) (r3 := 0) rfl (by decide) rfl (by omega) (by omega) (by decide) (u1 238 70 rfl) ?_
  refine wi_ireturn (nx := 12) (r1 := 0) (r2 := 0) (r3 := 0) rfl rfl ?_
  refine wk_i ?_
  refine wi_ireturn (nx := 7) (r1 := 0) (r2 := 0) (r3 := 0) rfl rfl ?_
  exact k h1 (h 238 70) g1 F2 (by omega)
-- method 245: Model.colorOf(I)I
set_option maxRecDepth 100000 in
set_option maxHeartbeats 100000000 in
theorem ct_245_236 {L : Nat} {xs : Nat → Int32} {d b c : Nat} {h : hp} {cr : Nat → Nat → Option Nat} {Q : hp_Q} (hcr : CR cr)  (g : GI h) (a0 : Int) (q0_ : -2147483648 ≤ a0 ∧ a0 ≤ 2147483647)  (k : ∀ (h2 : hp) (z0 : Int) , GI h2 → FR [(236, 236, some (0, 0))] h h2 → (0 ≤ z0 ∧ z0 ≤ 4) → Q (.inl (some (vi z0))) (hp_w h2 cr) b c) : wp (md_xa (L, xs)) (d + 2) 245 (0, [(0, .ref 236), (1, vi a0)], [], hp_w h cr, b, c) Q := by
  have F0 : FR [(236, 236, some (0, 0))] h h := FR.refl
  refine wi_aload_n (i := 0) (x := 236) (nx := 1) (r1 := 0) (r2 := 0) (r3 := 0) rfl rfl ?_
  refine wi_aload_n (i := 0) (x := 236) (nx := 2) (r1 := 0) (r2 := 0) (r3 := 0) rfl rfl ?_
  refine wi_iload_n (i := 1) (e := a0) (nx := 3) (r1 := 0) (r2 := 0) (r3 := 0) rfl rfl ?_
  refine wr_V (k0 := 236) (rest := [.ref 236]) (as := [.ref 236, vi a0]) (nx := 6) (r1 := 244) (r2 := 1) (r3 := 11) rfl rfl rfl (of_decide_eq_true rfl) rfl rfl (by decide) rfl rfl (of_decide_eq_true rfl) (of_decide_eq_true rfl) ?_
  refine wi_iload_n (i := 1) (e := a0) (nx := 1) (r1 := 0) (r2 := 0) (r3 := 0) rfl rfl ?_
  refine wi_i2l (nx := 2) (r1 := 0) (r2 := 0) (r3 := 0) rfl (by omega) ?_
  refine wi_lconst (n := 0) (e := 0) (nx := 3) (r1 := 0) (r2 := 0) (r3 := 0) rfl (by decide) ?_
  refine wi_aload_n (i := 0) (x := 236) (nx := 4) (r1 := 0) (r2 := 0) (r3 := 0) rfl rfl ?_
  refine wr_gr (k0 := 236) (x := 238) (nx := 7) (r1 := 11) (r2 := 13) (r3 := 0) rfl rfl (by decide) rfl ⟨rfl, rfl⟩ rfl ?_
  refine wi_iconst (n := 2) (nx := 8) (r1 := 0) (r2 := 0) (r3 := 0) rfl ?_
  have b1 := gi_b (lo := 0) (hi := 12) g 238 2 rfl
  refine wr_ia (k0 := 238) (a := 2) (f := 2) (x := h 238 2) (nx := 9) (r1 := 0) (r2 := 0) (r3 := 0) rfl (by decide) rfl (by omega) (by omega) (by decide) rfl ?_
  refine wi_iconst (n := 1) (nx := 10) (r1 := 0) (r2 := 0) (r3 := 0) rfl ?_
  refine wr_sub (nx := 11) (r1 := 0) (r2 := 0) (r3 := 0) rfl (fun e2 (fe2 : e2 = (h 238 2) - 1) => ?_)
  refine wi_i2l (nx := 12) (r1 := 0) (r2 := 0) (r3 := 0) rfl (by omega) ?_
  refine wi_S (rest := []) (as := [vl a0, vl 0, vl e2]) (nx := 15) (r1 := 210) (r2 := 19) (r3 := 0) rfl rfl rfl (of_decide_eq_true rfl) rfl rfl (of_decide_eq_true rfl) (of_decide_eq_true rfl) ?_
  refine wi_lload_n (i := 0) (e := a0) (nx := 1) (r1 := 0) (r2 := 0) (r3 := 0) rfl rfl ?_
  refine wi_lload_n (i := 2) (e := 0) (nx := 2) (r1 := 0) (r2 := 0) (r3 := 0) rfl rfl ?_
  refine wi_lcmp (a := a0) (e := 0) (nx := 3) (r1 := 0) (r2 := 0) (r3 := 0) rfl (by omega) (by omega) (fun r3 (fr3 : (r3 = -1 ∧ a0 < 0) ∨ (r3 = 0 ∧ a0 = 0) ∨ (r3 = 1 ∧ 0 < a0)) => ?_)
  refine wi_if (cd := .lt) (nx := 6) (r1 := 17) (r2 := 0) (r3 := 0) rfl (by omega) (fun (q4 : r3 < 0) => ?_) (fun (q4 : ¬ (r3 < 0)) => ?_)
  ·
    refine wi_iconst (n := 0) (nx := 18) (r1 := 0) (r2 := 0) (r3 := 0) rfl ?_
    refine wi_zreturn (nx := 19) (r1 := 0) (r2 := 0) (r3 := 0) rfl rfl (by omega) ?_
    refine wk_i ?_
    refine wi_zreturn (nx := 16) (r1 := 0) (r2 := 0) (r3 := 0) rfl rfl (by omega) ?_
    refine wk_i ?_
    refine wr_V (k0 := 236) (rest := []) (as := [.ref 236, vi 0]) (nx := 9) (r1 := 206) (r2 := 1) (r3 := 11) rfl rfl rfl (of_decide_eq_true rfl) rfl rfl (by decide) rfl rfl (of_decide_eq_true rfl) (of_decide_eq_true rfl) ?_
    refine wi_aload_n (i := 0) (x := 236) (nx := 1) (r1 := 0) (r2 := 0) (r3 := 0) rfl rfl ?_
    refine wi_iload_n (i := 1) (e := 0) (nx := 2) (r1 := 0) (r2 := 0) (r3 := 0) rfl rfl ?_
    refine wi_if (cd := .ne) (nx := 5) (r1 := 9) (r2 := 0) (r3 := 0) rfl (by omega) (fun (q5 : 0 ≠ 0) => by exfalso; omega) (fun (q5 : ¬ (0 ≠ 0)) => ?_)
    refine wi_iconst (n := 1) (nx := 6) (r1 := 0) (r2 := 0) (r3 := 0) rfl ?_
    refine wi_goto (nx := 9) (r1 := 10) (r2 := 0) (r3 := 0) rfl ?_
    refine wi_S (rest := [.ref 236]) (as := [vi 1]) (nx := 13) (r1 := 207) (r2 := 17) (r3 := 0) rfl rfl rfl (of_decide_eq_true rfl) rfl rfl (of_decide_eq_true rfl) (of_decide_eq_true rfl) ?_
    refine wi_iload_n (i := 0) (e := 1) (nx := 1) (r1 := 0) (r2 := 0) (r3 := 0) rfl rfl ?_
    refine wi_if (cd := .eq) (nx := 4) (r1 := 8) (r2 := 0) (r3 := 0) rfl (by omega) (fun (q6 : 1 = 0) => by exfalso; omega) (fun (q6 : ¬ (1 = 0)) => ?_)
    refine wi_iconst (n := 1) (nx := 5) (r1 := 0) (r2 := 0) (r3 := 0) rfl ?_
    refine wi_goto (nx := 8) (r1 := 9) (r2 := 0) (r3 := 0) rfl ?_
    refine wi_ireturn (nx := 10) (r1 := 0) (r2 := 0) (r3 := 0) rfl rfl ?_
    refine wk_i ?_
    refine wr_pf0 (k0 := 236) (x := 1) (bl := 0) (bh := 2) (nx := 16) (r1 := 11) (r2 := 0) (r3 := 0) rfl (by decide) rfl ⟨rfl, rfl⟩ rfl rfl g rfl (by omega) (fun h7 g7 w7 u7 => ?_)
    have F8 := F0.then rfl u7
    refine wi_iload_n (i := 1) (e := 0) (nx := 17) (r1 := 0) (r2 := 0) (r3 := 0) rfl rfl ?_
    refine wi_zreturn (nx := 18) (r1 := 0) (r2 := 0) (r3 := 0) rfl rfl (by omega) ?_
    refine wk_i ?_
    refine wi_if (cd := .eq) (nx := 12) (r1 := 24) (r2 := 0) (r3 := 0) rfl (by omega) (fun (q9 : 0 = 0) => ?_) (fun (q9 : ¬ (0 = 0)) => by exfalso; omega)
    refine wi_iconst (n := 0) (nx := 25) (r1 := 0) (r2 := 0) (r3 := 0) rfl ?_
    refine wi_ireturn (nx := 26) (r1 := 0) (r2 := 0) (r3 := 0) rfl rfl ?_
    exact k h7 0 g7 F8 (by omega)
  ·
    refine wi_lload_n (i := 0) (e := a0) (nx := 7) (r1 := 0) (r2 := 0) (r3 := 0) rfl rfl ?_
    refine wi_lload (i := 4) (e := e2) (nx := 9) (r1 := 0) (r2 := 0) (r3 := 0) rfl rfl ?_
    refine wi_lcmp (a := a0) (e := e2) (nx := 10) (r1 := 0) (r2 := 0) (r3 := 0) rfl (by omega) (by omega) (fun r5 (fr5 : (r5 = -1 ∧ a0 < e2) ∨ (r5 = 0 ∧ a0 = e2) ∨ (r5 = 1 ∧ e2 < a0)) => ?_)
    refine wi_if (cd := .gt) (nx := 13) (r1 := 17) (r2 := 0) (r3 := 0) rfl (by omega) (fun (q6 : 0 < r5) => ?_) (fun (q6 : ¬ (0 < r5)) => ?_)
    ·
      refine wi_iconst (n := 0) (nx := 18) (r1 := 0) (r2 := 0) (r3 := 0) rfl ?_
      refine wi_zreturn (nx := 19) (r1 := 0) (r2 := 0) (r3 := 0) rfl rfl (by omega) ?_
      refine wk_i ?_
      refine wi_zreturn (nx := 16) (r1 := 0) (r2 := 0) (r3 := 0) rfl rfl (by omega) ?_
      refine wk_i ?_
      refine wr_V (k0 := 236) (rest := []) (as := [.ref 236, vi 0]) (nx := 9) (r1 := 206) (r2 := 1) (r3 := 11) rfl rfl rfl (of_decide_eq_true rfl) rfl rfl (by decide) rfl rfl (of_decide_eq_true rfl) (of_decide_eq_true rfl) ?_
      refine wi_aload_n (i := 0) (x := 236) (nx := 1) (r1 := 0) (r2 := 0) (r3 := 0) rfl rfl ?_
      refine wi_iload_n (i := 1) (e := 0) (nx := 2) (r1 := 0) (r2 := 0) (r3 := 0) rfl rfl ?_
      refine wi_if (cd := .ne) (nx := 5) (r1 := 9) (r2 := 0) (r3 := 0) rfl (by omega) (fun (q7 : 0 ≠ 0) => by exfalso; omega) (fun (q7 : ¬ (0 ≠ 0)) => ?_)
      refine wi_iconst (n := 1) (nx := 6) (r1 := 0) (r2 := 0) (r3 := 0) rfl ?_
      refine wi_goto (nx := 9) (r1 := 10) (r2 := 0) (r3 := 0) rfl ?_
      refine wi_S (rest := [.ref 236]) (as := [vi 1]) (nx := 13) (r1 := 207) (r2 := 17) (r3 := 0) rfl rfl rfl (of_decide_eq_true rfl) rfl rfl (of_decide_eq_true rfl) (of_decide_eq_true rfl) ?_
      refine wi_iload_n (i := 0) (e := 1) (nx := 1) (r1 := 0) (r2 := 0) (r3 := 0) rfl rfl ?_
      refine wi_if (cd := .eq) (nx := 4) (r1 := 8) (r2 := 0) (r3 := 0) rfl (by omega) (fun (q8 : 1 = 0) => by exfalso; omega) (fun (q8 : ¬ (1 = 0)) => ?_)
      refine wi_iconst (n := 1) (nx := 5) (r1 := 0) (r2 := 0) (r3 := 0) rfl ?_
      refine wi_goto (nx := 8) (r1 := 9) (r2 := 0) (r3 := 0) rfl ?_
      refine wi_ireturn (nx := 10) (r1 := 0) (r2 := 0) (r3 := 0) rfl rfl ?_
      refine wk_i ?_
      refine wr_pf0 (k0 := 236) (x := 1) (bl := 0) (bh := 2) (nx := 16) (r1 := 11) (r2 := 0) (r3 := 0) rfl (by decide) rfl ⟨rfl, rfl⟩ rfl rfl g rfl (by omega) (fun h9 g9 w9 u9 => ?_)
      have F10 := F0.then rfl u9
      refine wi_iload_n (i := 1) (e := 0) (nx := 17) (r1 := 0) (r2 := 0) (r3 := 0) rfl rfl ?_
      refine wi_zreturn (nx := 18) (r1 := 0) (r2 := 0) (r3 := 0) rfl rfl (by omega) ?_
      refine wk_i ?_
      refine wi_if (cd := .eq) (nx := 12) (r1 := 24) (r2 := 0) (r3 := 0) rfl (by omega) (fun (q11 : 0 = 0) => ?_) (fun (q11 : ¬ (0 = 0)) => by exfalso; omega)
      refine wi_iconst (n := 0) (nx := 25) (r1 := 0) (r2 := 0) (r3 := 0) rfl ?_
      refine wi_ireturn (nx := 26) (r1 := 0) (r2 := 0) (r3 := 0) rfl rfl ?_
      exact k h9 0 g9 F10 (by omega)
    ·
      refine wi_iconst (n := 1) (nx := 14) (r1 := 0) (r2 := 0) (r3 := 0) rfl ?_
      refine wi_goto (nx := 17) (r1 := 18) (r2 := 0) (r3 := 0) rfl ?_
      refine wi_zreturn (nx := 19) (r1 := 0) (r2 := 0) (r3 := 0) rfl rfl (by omega) ?_
      refine wk_i ?_
      refine wi_zreturn (nx := 16) (r1 := 0) (r2 := 0) (r3 := 0) rfl rfl (by omega) ?_
      refine wk_i ?_
      refine wr_V (k0 := 236) (rest := []) (as := [.ref 236, vi 1]) (nx := 9) (r1 := 206) (r2 := 1) (r3 := 11) rfl rfl rfl (of_decide_eq_true rfl) rfl rfl (by decide) rfl rfl (of_decide_eq_true rfl) (of_decide_eq_true rfl) ?_
      refine wi_aload_n (i := 0) (x := 236) (nx := 1) (r1 := 0) (r2 := 0) (r3 := 0) rfl rfl ?_
      refine wi_iload_n (i := 1) (e := 1) (nx := 2) (r1 := 0) (r2 := 0) (r3 := 0) rfl rfl ?_
      refine wi_if (cd := .ne) (nx := 5) (r1 := 9) (r2 := 0) (r3 := 0) rfl (by omega) (fun (q7 : 1 ≠ 0) => ?_) (fun (q7 : ¬ (1 ≠ 0)) => by exfalso; omega)
      refine wi_iconst (n := 0) (nx := 10) (r1 := 0) (r2 := 0) (r3 := 0) rfl ?_
      refine wi_S (rest := [.ref 236]) (as := [vi 0]) (nx := 13) (r1 := 207) (r2 := 17) (r3 := 0) rfl rfl rfl (of_decide_eq_true rfl) rfl rfl (of_decide_eq_true rfl) (of_decide_eq_true rfl) ?_
      refine wi_iload_n (i := 0) (e := 0) (nx := 1) (r1 := 0) (r2 := 0) (r3 := 0) rfl rfl ?_
      refine wi_if (cd := .eq) (nx := 4) (r1 := 8) (r2 := 0) (r3 := 0) rfl (by omega) (fun (q8 : 0 = 0) => ?_) (fun (q8 : ¬ (0 = 0)) => by exfalso; omega)
      refine wi_iconst (n := 0) (nx := 9) (r1 := 0) (r2 := 0) (r3 := 0) rfl ?_
      refine wi_ireturn (nx := 10) (r1 := 0) (r2 := 0) (r3 := 0) rfl rfl ?_
      refine wk_i ?_
      refine wr_pf0 (k0 := 236) (x := 0) (bl := 0) (bh := 2) (nx := 16) (r1 := 11) (r2 := 0) (r3 := 0) rfl (by decide) rfl ⟨rfl, rfl⟩ rfl rfl g rfl (by omega) (fun h9 g9 w9 u9 => ?_)
      have F10 := F0.then rfl u9
      refine wi_iload_n (i := 1) (e := 1) (nx := 17) (r1 := 0) (r2 := 0) (r3 := 0) rfl rfl ?_
      refine wi_zreturn (nx := 18) (r1 := 0) (r2 := 0) (r3 := 0) rfl rfl (by omega) ?_
      refine wk_i ?_
      refine wi_if (cd := .eq) (nx := 12) (r1 := 24) (r2 := 0) (r3 := 0) rfl (by omega) (fun (q11 : 1 = 0) => by exfalso; omega) (fun (q11 : ¬ (1 = 0)) => ?_)
      refine wi_aload_n (i := 0) (x := 236) (nx := 13) (r1 := 0) (r2 := 0) (r3 := 0) rfl rfl ?_
      refine wr_gr (k0 := 236) (x := 238) (nx := 16) (r1 := 11) (r2 := 13) (r3 := 0) rfl rfl (by decide) rfl ⟨rfl, rfl⟩ rfl ?_
      refine wi_bipush (n := 31) (nx := 18) (r1 := 0) (r2 := 0) (r3 := 0) rfl (by decide) ?_
      refine wi_iload_n (i := 1) (e := a0) (nx := 19) (r1 := 0) (r2 := 0) (r3 := 0) rfl rfl ?_
      refine wr_add (nx := 20) (r1 := 0) (r2 := 0) (r3 := 0) rfl (fun e12 (fe12 : e12 = 31 + a0) => ?_)
      obtain ⟨i13, ei13⟩ : ∃ q : Nat, e12 = (q : Int) := ⟨(e12).toNat, by omega⟩
      have b14 := gi_b (lo := 0) (hi := 4) g 238 i13 (gi_rg 31 12 (fun _ => rfl) (by decide +kernel) (by omega))
      refine wr_ia (k0 := 238) (a := e12) (f := i13) (x := h 238 i13) (nx := 21) (r1 := 0) (r2 := 0) (r3 := 0) rfl (by decide) rfl (by omega) (by omega) (by decide) (u9 238 i13 (fn_a (by omega) fn_0)) ?_
      refine wi_goto (nx := 24) (r1 := 25) (r2 := 0) (r3 := 0) rfl ?_
      refine wi_ireturn (nx := 26) (r1 := 0) (r2 := 0) (r3 := 0) rfl rfl ?_
      exact k h9 (h 238 i13) g9 F10 (by omega)
-- method 249: Model.alike(I)I
set_option maxRecDepth 100000 in
set_option maxHeartbeats 100000000 in
theorem ct_249_236 {L : Nat} {xs : Nat → Int32} {d b c : Nat} {h : hp} {cr : Nat → Nat → Option Nat} {Q : hp_Q} (hcr : CR cr)  (g : GI h) (a0 : Int) (q0_ : 0 ≤ a0 ∧ a0 ≤ 11)  (k : ∀ (z0 : Int), (-2147483648 ≤ z0 ∧ z0 ≤ 2147483647) → Q (.inl (some (vi z0))) (hp_w h cr) b c) : wp (md_xa (L, xs)) (d + 1) 249 (0, [(0, .ref 236), (1, vi a0)], [], hp_w h cr, b, c) Q := by
  have F0 : FR [] h h := FR.refl
  refine wi_iconst (n := 0) (nx := 1) (r1 := 0) (r2 := 0) (r3 := 0) rfl ?_
  refine wi_istore_n (i := 2) (e := 0) (lo2 := [(2, vi 0), (0, .ref 236), (1, vi a0)]) (nx := 2) (r1 := 0) (r2 := 0) (r3 := 0) rfl rfl ?_
  refine wi_iconst (n := 0) (nx := 3) (r1 := 0) (r2 := 0) (r3 := 0) rfl ?_
  refine wi_istore_n (i := 3) (e := 0) (lo2 := [(3, vi 0), (2, vi 0), (0, .ref 236), (1, vi a0)]) (nx := 4) (r1 := 0) (r2 := 0) (r3 := 0) rfl rfl ?_
  refine wp.lo (lo := [(0, .ref 236), (1, vi a0), (2, vi 0), (3, vi 0)]) ⟨rfl, rfl, rfl, rfl, trivial⟩ rfl ?_
  refine wl_2 (fun x1 x2 h3 => h = h3 ∧ ((-2147483648 ≤ x1 ∧ x1 ≤ 2147483647) ∧ (0 ≤ x2 ∧ x2 ≤ 12))) (fun x1 x2 h3 => ((12 : Int) + 1 - x2).toNat) (fun x1 x2 h3 => (4, [(0, .ref 236), (1, vi a0), (2, vi x1), (3, vi x2)], [], hp_w h3 cr, b, c)) ?_ 0 0 h ⟨rfl, (show (-2147483648 ≤ 0 ∧ 0 ≤ 2147483647) ∧ (0 ≤ 0 ∧ 0 ≤ 12) by omega)⟩
  intro x1 x2 h3 ⟨e3, f3⟩ I3
  subst e3
  refine wi_iload_n (i := 3) (e := x2) (nx := 5) (r1 := 0) (r2 := 0) (r3 := 0) rfl rfl ?_
  refine wi_aload_n (i := 0) (x := 236) (nx := 6) (r1 := 0) (r2 := 0) (r3 := 0) rfl rfl ?_
  refine wr_gr (k0 := 236) (x := 238) (nx := 9) (r1 := 11) (r2 := 13) (r3 := 0) rfl rfl (by decide) rfl ⟨rfl, rfl⟩ rfl ?_
  refine wi_iconst (n := 2) (nx := 10) (r1 := 0) (r2 := 0) (r3 := 0) rfl ?_
  have b5 := gi_b (lo := 0) (hi := 12) g 238 2 rfl
  refine wr_ia (k0 := 238) (a := 2) (f := 2) (x := h 238 2) (nx := 11) (r1 := 0) (r2 := 0) (r3 := 0) rfl (by decide) rfl (by omega) (by omega) (by decide) rfl ?_
  refine wi_icmp (cd := .ge) (nx := 14) (r1 := 73) (r2 := 0) (r3 := 0) rfl (by omega) (by omega) (fun (q6 : (h 238 2) ≤ x2) => ?_) (fun (q6 : ¬ ((h 238 2) ≤ x2)) => ?_)
  ·
    refine wi_iload_n (i := 2) (e := x1) (nx := 74) (r1 := 0) (r2 := 0) (r3 := 0) rfl rfl ?_
    refine wi_ireturn (nx := 75) (r1 := 0) (r2 := 0) (r3 := 0) rfl rfl ?_
    exact k x1 (by omega)
  ·
    refine wi_iload_n (i := 2) (e := x1) (nx := 15) (r1 := 0) (r2 := 0) (r3 := 0) rfl rfl ?_
    refine wi_aload_n (i := 0) (x := 236) (nx := 16) (r1 := 0) (r2 := 0) (r3 := 0) rfl rfl ?_
    refine wr_gr (k0 := 236) (x := 238) (nx := 19) (r1 := 11) (r2 := 13) (r3 := 0) rfl rfl (by decide) rfl ⟨rfl, rfl⟩ rfl ?_
    refine wi_bipush (n := 19) (nx := 21) (r1 := 0) (r2 := 0) (r3 := 0) rfl (by decide) ?_
    refine wi_iload_n (i := 3) (e := x2) (nx := 22) (r1 := 0) (r2 := 0) (r3 := 0) rfl rfl ?_
    refine wr_add (nx := 23) (r1 := 0) (r2 := 0) (r3 := 0) rfl (fun e7 (fe7 : e7 = 19 + x2) => ?_)
    obtain ⟨i8, ei8⟩ : ∃ q : Nat, e7 = (q : Int) := ⟨(e7).toNat, by omega⟩
    have b9 := gi_b (lo := 0) (hi := 999) g 238 i8 (gi_rg 19 12 (fun _ => rfl) (by decide +kernel) (by omega))
    refine wr_ia (k0 := 238) (a := e7) (f := i8) (x := h 238 i8) (nx := 24) (r1 := 0) (r2 := 0) (r3 := 0) rfl (by decide) rfl (by omega) (by omega) (by decide) rfl ?_
    refine wi_aload_n (i := 0) (x := 236) (nx := 25) (r1 := 0) (r2 := 0) (r3 := 0) rfl rfl ?_
    refine wr_gr (k0 := 236) (x := 238) (nx := 28) (r1 := 11) (r2 := 13) (r3 := 0) rfl rfl (by decide) rfl ⟨rfl, rfl⟩ rfl ?_
    refine wi_bipush (n := 19) (nx := 30) (r1 := 0) (r2 := 0) (r3 := 0) rfl (by decide) ?_
    refine wi_iload_n (i := 1) (e := a0) (nx := 31) (r1 := 0) (r2 := 0) (r3 := 0) rfl rfl ?_
    refine wr_add (nx := 32) (r1 := 0) (r2 := 0) (r3 := 0) rfl (fun e10 (fe10 : e10 = 19 + a0) => ?_)
    obtain ⟨i11, ei11⟩ : ∃ q : Nat, e10 = (q : Int) := ⟨(e10).toNat, by omega⟩
    have b12 := gi_b (lo := 0) (hi := 999) g 238 i11 (gi_rg 19 12 (fun _ => rfl) (by decide +kernel) (by omega))
    refine wr_ia (k0 := 238) (a := e10) (f := i11) (x := h 238 i11) (nx := 33) (r1 := 0) (r2 := 0) (r3 := 0) rfl (by decide) rfl (by omega) (by omega) (by decide) rfl ?_
    refine wi_icmp (cd := .ne) (nx := 36) (r1 := 61) (r2 := 0) (r3 := 0) rfl (by omega) (by omega) (fun (q13 : (h 238 i8) ≠ (h 238 i11)) => ?_) (fun (q13 : ¬ ((h 238 i8) ≠ (h 238 i11))) => ?_)
    ·
      refine wi_iconst (n := 0) (nx := 62) (r1 := 0) (r2 := 0) (r3 := 0) rfl ?_
      refine wi_S (rest := [vi x1]) (as := [vi 0]) (nx := 65) (r1 := 207) (r2 := 17) (r3 := 0) rfl rfl rfl (of_decide_eq_true rfl) rfl rfl (of_decide_eq_true rfl) (of_decide_eq_true rfl) ?_
      refine wi_iload_n (i := 0) (e := 0) (nx := 1) (r1 := 0) (r2 := 0) (r3 := 0) rfl rfl ?_
      refine wi_if (cd := .eq) (nx := 4) (r1 := 8) (r2 := 0) (r3 := 0) rfl (by omega) (fun (q14 : 0 = 0) => ?_) (fun (q14 : ¬ (0 = 0)) => by exfalso; omega)
      refine wi_iconst (n := 0) (nx := 9) (r1 := 0) (r2 := 0) (r3 := 0) rfl ?_
      refine wi_ireturn (nx := 10) (r1 := 0) (r2 := 0) (r3 := 0) rfl rfl ?_
      refine wk_i ?_
      refine wr_add (nx := 66) (r1 := 0) (r2 := 0) (r3 := 0) rfl (fun e15 (fe15 : e15 = x1 + 0) => ?_)
      refine wi_istore_n (i := 2) (e := e15) (lo2 := [(2, vi e15), (0, .ref 236), (1, vi a0), (3, vi x2)]) (nx := 67) (r1 := 0) (r2 := 0) (r3 := 0) rfl rfl ?_
      refine wr_iinc (i := 3) (n := 1) (v := x2) (fun e16 => [(3, vi e16), (2, vi e15), (0, .ref 236), (1, vi a0)]) (nx := 70) (r1 := 0) (r2 := 0) (r3 := 0) rfl rfl (fun _ => rfl) (fun e16 (fe16 : e16 = x2 + 1) => ?_)
      refine wi_goto (nx := 73) (r1 := 4) (r2 := 0) (r3 := 0) rfl ?_
      refine wp.lo (lo := [(0, .ref 236), (1, vi a0), (2, vi e15), (3, vi e16)]) ⟨rfl, rfl, rfl, rfl, trivial⟩ rfl ?_
      exact I3 e15 e16 h ⟨rfl, (show (-2147483648 ≤ e15 ∧ e15 ≤ 2147483647) ∧ (0 ≤ e16 ∧ e16 ≤ 12) by omega)⟩ (show ((12 : Int) + 1 - e16).toNat < ((12 : Int) + 1 - x2).toNat by omega)
    ·
      refine wi_aload_n (i := 0) (x := 236) (nx := 37) (r1 := 0) (r2 := 0) (r3 := 0) rfl rfl ?_
      refine wr_gr (k0 := 236) (x := 238) (nx := 40) (r1 := 11) (r2 := 13) (r3 := 0) rfl rfl (by decide) rfl ⟨rfl, rfl⟩ rfl ?_
      refine wi_bipush (n := 31) (nx := 42) (r1 := 0) (r2 := 0) (r3 := 0) rfl (by decide) ?_
      refine wi_iload_n (i := 3) (e := x2) (nx := 43) (r1 := 0) (r2 := 0) (r3 := 0) rfl rfl ?_
      refine wr_add (nx := 44) (r1 := 0) (r2 := 0) (r3 := 0) rfl (fun e14 (fe14 : e14 = 31 + x2) => ?_)
      obtain ⟨i15, ei15⟩ : ∃ q : Nat, e14 = (q : Int) := ⟨(e14).toNat, by omega⟩
      have b16 := gi_b (lo := 0) (hi := 4) g 238 i15 (gi_rg 31 12 (fun _ => rfl) (by decide +kernel) (by omega))
      refine wr_ia (k0 := 238) (a := e14) (f := i15) (x := h 238 i15) (nx := 45) (r1 := 0) (r2 := 0) (r3 := 0) rfl (by decide) rfl (by omega) (by omega) (by decide) rfl ?_
      refine wi_aload_n (i := 0) (x := 236) (nx := 46) (r1 := 0) (r2 := 0) (r3 := 0) rfl rfl ?_
      refine wr_gr (k0 := 236) (x := 238) (nx := 49) (r1 := 11) (r2 := 13) (r3 := 0) rfl rfl (by decide) rfl ⟨rfl, rfl⟩ rfl ?_
      refine wi_bipush (n := 31) (nx := 51) (r1 := 0) (r2 := 0) (r3 := 0) rfl (by decide) ?_
      refine wi_iload_n (i := 1) (e := a0) (nx := 52) (r1 := 0) (r2 := 0) (r3 := 0) rfl rfl ?_
      refine wr_add (nx := 53) (r1 := 0) (r2 := 0) (r3 := 0) rfl (fun e17 (fe17 : e17 = 31 + a0) => ?_)
      obtain ⟨i18, ei18⟩ : ∃ q : Nat, e17 = (q : Int) := ⟨(e17).toNat, by omega⟩
      have b19 := gi_b (lo := 0) (hi := 4) g 238 i18 (gi_rg 31 12 (fun _ => rfl) (by decide +kernel) (by omega))
      refine wr_ia (k0 := 238) (a := e17) (f := i18) (x := h 238 i18) (nx := 54) (r1 := 0) (r2 := 0) (r3 := 0) rfl (by decide) rfl (by omega) (by omega) (by decide) rfl ?_
      refine wi_icmp (cd := .ne) (nx := 57) (r1 := 61) (r2 := 0) (r3 := 0) rfl (by omega) (by omega) (fun (q20 : (h 238 i15) ≠ (h 238 i18)) => ?_) (fun (q20 : ¬ ((h 238 i15) ≠ (h 238 i18))) => ?_)
      ·
        refine wi_iconst (n := 0) (nx := 62) (r1 := 0) (r2 := 0) (r3 := 0) rfl ?_
        refine wi_S (rest := [vi x1]) (as := [vi 0]) (nx := 65) (r1 := 207) (r2 := 17) (r3 := 0) rfl rfl rfl (of_decide_eq_true rfl) rfl rfl (of_decide_eq_true rfl) (of_decide_eq_true rfl) ?_
        refine wi_iload_n (i := 0) (e := 0) (nx := 1) (r1 := 0) (r2 := 0) (r3 := 0) rfl rfl ?_
        refine wi_if (cd := .eq) (nx := 4) (r1 := 8) (r2 := 0) (r3 := 0) rfl (by omega) (fun (q21 : 0 = 0) => ?_) (fun (q21 : ¬ (0 = 0)) => by exfalso; omega)
        refine wi_iconst (n := 0) (nx := 9) (r1 := 0) (r2 := 0) (r3 := 0) rfl ?_
        refine wi_ireturn (nx := 10) (r1 := 0) (r2 := 0) (r3 := 0) rfl rfl ?_
        refine wk_i ?_
        refine wr_add (nx := 66) (r1 := 0) (r2 := 0) (r3 := 0) rfl (fun e22 (fe22 : e22 = x1 + 0) => ?_)
        refine wi_istore_n (i := 2) (e := e22) (lo2 := [(2, vi e22), (0, .ref 236), (1, vi a0), (3, vi x2)]) (nx := 67) (r1 := 0) (r2 := 0) (r3 := 0) rfl rfl ?_
        refine wr_iinc (i := 3) (n := 1) (v := x2) (fun e23 => [(3, vi e23), (2, vi e22), (0, .ref 236), (1, vi a0)]) (nx := 70) (r1 := 0) (r2 := 0) (r3 := 0) rfl rfl (fun _ => rfl) (fun e23 (fe23 : e23 = x2 + 1) => ?_)
        refine wi_goto (nx := 73) (r1 := 4) (r2 := 0) (r3 := 0) rfl ?_
        refine wp.lo (lo := [(0, .ref 236), (1, vi a0), (2, vi e22), (3, vi e23)]) ⟨rfl, rfl, rfl, rfl, trivial⟩ rfl ?_
        exact I3 e22 e23 h ⟨rfl, (show (-2147483648 ≤ e22 ∧ e22 ≤ 2147483647) ∧ (0 ≤ e23 ∧ e23 ≤ 12) by omega)⟩ (show ((12 : Int) + 1 - e23).toNat < ((12 : Int) + 1 - x2).toNat by omega)
      ·
        refine wi_iconst (n := 1) (nx := 58) (r1 := 0) (r2 := 0) (r3 := 0) rfl ?_
        refine wi_goto (nx := 61) (r1 := 62) (r2 := 0) (r3 := 0) rfl ?_
        refine wi_S (rest := [vi x1]) (as := [vi 1]) (nx := 65) (r1 := 207) (r2 := 17) (r3 := 0) rfl rfl rfl (of_decide_eq_true rfl) rfl rfl (of_decide_eq_true rfl) (of_decide_eq_true rfl) ?_
        refine wi_iload_n (i := 0) (e := 1) (nx := 1) (r1 := 0) (r2 := 0) (r3 := 0) rfl rfl ?_
        refine wi_if (cd := .eq) (nx := 4) (r1 := 8) (r2 := 0) (r3 := 0) rfl (by omega) (fun (q21 : 1 = 0) => by exfalso; omega) (fun (q21 : ¬ (1 = 0)) => ?_)
        refine wi_iconst (n := 1) (nx := 5) (r1 := 0) (r2 := 0) (r3 := 0) rfl ?_
        refine wi_goto (nx := 8) (r1 := 9) (r2 := 0) (r3 := 0) rfl ?_
        refine wi_ireturn (nx := 10) (r1 := 0) (r2 := 0) (r3 := 0) rfl rfl ?_
        refine wk_i ?_
        refine wr_addW (nx := 66) (r1 := 0) (r2 := 0) (r3 := 0) rfl (fun e22 (fe22 : -2147483648 ≤ e22 ∧ e22 ≤ 2147483647) => ?_)
        refine wi_istore_n (i := 2) (e := e22) (lo2 := [(2, vi e22), (0, .ref 236), (1, vi a0), (3, vi x2)]) (nx := 67) (r1 := 0) (r2 := 0) (r3 := 0) rfl rfl ?_
        refine wr_iinc (i := 3) (n := 1) (v := x2) (fun e23 => [(3, vi e23), (2, vi e22), (0, .ref 236), (1, vi a0)]) (nx := 70) (r1 := 0) (r2 := 0) (r3 := 0) rfl rfl (fun _ => rfl) (fun e23 (fe23 : e23 = x2 + 1) => ?_)
        refine wi_goto (nx := 73) (r1 := 4) (r2 := 0) (r3 := 0) rfl ?_
        refine wp.lo (lo := [(0, .ref 236), (1, vi a0), (2, vi e22), (3, vi e23)]) ⟨rfl, rfl, rfl, rfl, trivial⟩ rfl ?_
        exact I3 e22 e23 h ⟨rfl, (show (-2147483648 ≤ e22 ∧ e22 ≤ 2147483647) ∧ (0 ≤ e23 ∧ e23 ≤ 12) by omega)⟩ (show ((12 : Int) + 1 - e23).toNat < ((12 : Int) + 1 - x2).toNat by omega)
-- method 248: Model.commonest()I
set_option maxRecDepth 100000 in
set_option maxHeartbeats 100000000 in
theorem ct_248_236 {L : Nat} {xs : Nat → Int32} {d b c : Nat} {h : hp} {cr : Nat → Nat → Option Nat} {Q : hp_Q} (hcr : CR cr)  (g : GI h)    (k : ∀ (h2 : hp) (z0 : Int) , GI h2 → FR [(236, 236, some (0, 0))] h h2 → (0 ≤ z0 ∧ z0 ≤ 2147483647) → Q (.inl (some (vi z0))) (hp_w h2 cr) b c) : wp (md_xa (L, xs)) (d + 2) 248 (0, [(0, .ref 236)], [], hp_w h cr, b, c) Q := by
  have F0 : FR [(236, 236, some (0, 0))] h h := FR.refl
  refine wi_aload_n (i := 0) (x := 236) (nx := 1) (r1 := 0) (r2 := 0) (r3 := 0) rfl rfl ?_
  refine wi_iconst (n := 0) (nx := 2) (r1 := 0) (r2 := 0) (r3 := 0) rfl ?_
  refine wr_pf0 (k0 := 236) (x := 0) (bl := 0) (bh := 2) (nx := 5) (r1 := 11) (r2 := 0) (r3 := 0) rfl (by decide) rfl ⟨rfl, rfl⟩ rfl rfl g rfl (by omega) (fun h1 g1 w1 u1 => ?_)
  have F2 := F0.then rfl u1
  refine wi_iconst (n := 0) (nx := 6) (r1 := 0) (r2 := 0) (r3 := 0) rfl ?_
  refine wi_istore_n (i := 1) (e := 0) (lo2 := [(1, vi 0), (0, .ref 236)]) (nx := 7) (r1 := 0) (r2 := 0) (r3 := 0) rfl rfl ?_
  refine wi_iconst (n := 0) (nx := 8) (r1 := 0) (r2 := 0) (r3 := 0) rfl ?_
  refine wi_istore_n (i := 2) (e := 0) (lo2 := [(2, vi 0), (1, vi 0), (0, .ref 236)]) (nx := 9) (r1 := 0) (r2 := 0) (r3 := 0) rfl rfl ?_
  refine wp.lo (lo := [(0, .ref 236), (1, vi 0), (2, vi 0)]) ⟨rfl, rfl, rfl, trivial⟩ rfl ?_
  refine wl_2 (fun x3 x4 h5 => h1 = h5 ∧ ((0 ≤ x3 ∧ x3 ≤ 2147483647) ∧ (0 ≤ x4 ∧ x4 ≤ 12))) (fun x3 x4 h5 => ((12 : Int) + 1 - x4).toNat) (fun x3 x4 h5 => (9, [(0, .ref 236), (1, vi x3), (2, vi x4)], [], hp_w h5 cr, b, c)) ?_ 0 0 h1 ⟨rfl, (show (0 ≤ 0 ∧ 0 ≤ 2147483647) ∧ (0 ≤ 0 ∧ 0 ≤ 12) by omega)⟩
  intro x3 x4 h5 ⟨e5, f5⟩ I5
  subst e5
  refine wi_iload_n (i := 2) (e := x4) (nx := 10) (r1 := 0) (r2 := 0) (r3 := 0) rfl rfl ?_
  refine wi_aload_n (i := 0) (x := 236) (nx := 11) (r1 := 0) (r2 := 0) (r3 := 0) rfl rfl ?_
  refine wr_gr (k0 := 236) (x := 238) (nx := 14) (r1 := 11) (r2 := 13) (r3 := 0) rfl rfl (by decide) rfl ⟨rfl, rfl⟩ rfl ?_
  refine wi_iconst (n := 2) (nx := 15) (r1 := 0) (r2 := 0) (r3 := 0) rfl ?_
  have b7 := gi_b (lo := 0) (hi := 12) g 238 2 rfl
  refine wr_ia (k0 := 238) (a := 2) (f := 2) (x := h 238 2) (nx := 16) (r1 := 0) (r2 := 0) (r3 := 0) rfl (by decide) rfl (by omega) (by omega) (by decide) (u1 238 2 rfl) ?_
  refine wi_icmp (cd := .ge) (nx := 19) (r1 := 35) (r2 := 0) (r3 := 0) rfl (by omega) (by omega) (fun (q8 : (h 238 2) ≤ x4) => ?_) (fun (q8 : ¬ ((h 238 2) ≤ x4)) => ?_)
  ·
    refine wi_iload_n (i := 1) (e := x3) (nx := 36) (r1 := 0) (r2 := 0) (r3 := 0) rfl rfl ?_
    refine wi_ireturn (nx := 37) (r1 := 0) (r2 := 0) (r3 := 0) rfl rfl ?_
    exact k h1 x3 g1 F2 (by omega)
  ·
    refine wi_iload_n (i := 1) (e := x3) (nx := 20) (r1 := 0) (r2 := 0) (r3 := 0) rfl rfl ?_
    refine wi_aload_n (i := 0) (x := 236) (nx := 21) (r1 := 0) (r2 := 0) (r3 := 0) rfl rfl ?_
    refine wi_iload_n (i := 2) (e := x4) (nx := 22) (r1 := 0) (r2 := 0) (r3 := 0) rfl rfl ?_
    refine wr_V (k0 := 236) (rest := [vi x3]) (as := [.ref 236, vi x4]) (nx := 25) (r1 := 249) (r2 := 1) (r3 := 11) rfl rfl rfl (of_decide_eq_true rfl) rfl rfl (by decide) rfl rfl (of_decide_eq_true rfl) (of_decide_eq_true rfl) ?_
    refine ct_249_236 hcr  g1 x4 (by omega)  (fun z10  (fz10 : -2147483648 ≤ z10 ∧ z10 ≤ 2147483647) => ?_)
    refine wk_i ?_
    refine wi_S (rest := []) (as := [vi x3, vi z10]) (nx := 28) (r1 := 250) (r2 := 18) (r3 := 0) rfl rfl rfl (of_decide_eq_true rfl) rfl rfl (of_decide_eq_true rfl) (of_decide_eq_true rfl) ?_
    refine wi_iload_n (i := 0) (e := x3) (nx := 1) (r1 := 0) (r2 := 0) (r3 := 0) rfl rfl ?_
    refine wi_iload_n (i := 1) (e := z10) (nx := 2) (r1 := 0) (r2 := 0) (r3 := 0) rfl rfl ?_
    refine wi_icmp (cd := .le) (nx := 5) (r1 := 9) (r2 := 0) (r3 := 0) rfl (by omega) (by omega) (fun (q11 : x3 ≤ z10) => ?_) (fun (q11 : ¬ (x3 ≤ z10)) => ?_)
    ·
      refine wi_iload_n (i := 1) (e := z10) (nx := 10) (r1 := 0) (r2 := 0) (r3 := 0) rfl rfl ?_
      refine wi_ireturn (nx := 11) (r1 := 0) (r2 := 0) (r3 := 0) rfl rfl ?_
      refine wk_i ?_
      refine wi_istore_n (i := 1) (e := z10) (lo2 := [(1, vi z10), (0, .ref 236), (2, vi x4)]) (nx := 29) (r1 := 0) (r2 := 0) (r3 := 0) rfl rfl ?_
      refine wr_iinc (i := 2) (n := 1) (v := x4) (fun e12 => [(2, vi e12), (1, vi z10), (0, .ref 236)]) (nx := 32) (r1 := 0) (r2 := 0) (r3 := 0) rfl rfl (fun _ => rfl) (fun e12 (fe12 : e12 = x4 + 1) => ?_)
      refine wi_goto (nx := 35) (r1 := 9) (r2 := 0) (r3 := 0) rfl ?_
      refine wp.lo (lo := [(0, .ref 236), (1, vi z10), (2, vi e12)]) ⟨rfl, rfl, rfl, trivial⟩ rfl ?_
      exact I5 z10 e12 h1 ⟨rfl, (show (0 ≤ z10 ∧ z10 ≤ 2147483647) ∧ (0 ≤ e12 ∧ e12 ≤ 12) by omega)⟩ (show ((12 : Int) + 1 - e12).toNat < ((12 : Int) + 1 - x4).toNat by omega)
    ·
      refine wi_iload_n (i := 0) (e := x3) (nx := 6) (r1 := 0) (r2 := 0) (r3 := 0) rfl rfl ?_
      refine wi_goto (nx := 9) (r1 := 10) (r2 := 0) (r3 := 0) rfl ?_
      refine wi_ireturn (nx := 11) (r1 := 0) (r2 := 0) (r3 := 0) rfl rfl ?_
      refine wk_i ?_
      refine wi_istore_n (i := 1) (e := x3) (lo2 := [(1, vi x3), (0, .ref 236), (2, vi x4)]) (nx := 29) (r1 := 0) (r2 := 0) (r3 := 0) rfl rfl ?_
      refine wr_iinc (i := 2) (n := 1) (v := x4) (fun e12 => [(2, vi e12), (1, vi x3), (0, .ref 236)]) (nx := 32) (r1 := 0) (r2 := 0) (r3 := 0) rfl rfl (fun _ => rfl) (fun e12 (fe12 : e12 = x4 + 1) => ?_)
      refine wi_goto (nx := 35) (r1 := 9) (r2 := 0) (r3 := 0) rfl ?_
      refine wp.lo (lo := [(0, .ref 236), (1, vi x3), (2, vi e12)]) ⟨rfl, rfl, rfl, trivial⟩ rfl ?_
      exact I5 x3 e12 h1 ⟨rfl, (show (0 ≤ x3 ∧ x3 ≤ 2147483647) ∧ (0 ≤ e12 ∧ e12 ≤ 12) by omega)⟩ (show ((12 : Int) + 1 - e12).toNat < ((12 : Int) + 1 - x4).toNat by omega)
-- method 274: Model.cost()I
set_option maxRecDepth 100000 in
set_option maxHeartbeats 100000000 in
theorem ct_274_236 {L : Nat} {xs : Nat → Int32} {d b c : Nat} {h : hp} {cr : Nat → Nat → Option Nat} {Q : hp_Q} (hcr : CR cr)  (g : GI h)    (k : ∀ (h2 : hp) (z0 : Int) , GI h2 → FR [(236, 236, some (0, 0))] h h2 → (-2147483648 ≤ z0 ∧ z0 ≤ 2147483647) → Q (.inl (some (vi z0))) (hp_w h2 cr) b c) : wp (md_xa (L, xs)) (d + 1) 274 (0, [(0, .ref 236)], [], hp_w h cr, b, c) Q := by
  have F0 : FR [(236, 236, some (0, 0))] h h := FR.refl
  refine wi_aload_n (i := 0) (x := 236) (nx := 1) (r1 := 0) (r2 := 0) (r3 := 0) rfl rfl ?_
  refine wi_bipush (n := 72) (nx := 3) (r1 := 0) (r2 := 0) (r3 := 0) rfl (by decide) ?_
  refine wr_V (k0 := 236) (rest := []) (as := [.ref 236, vi 72]) (nx := 6) (r1 := 269) (r2 := 1) (r3 := 11) rfl rfl rfl (of_decide_eq_true rfl) rfl rfl (by decide) rfl rfl (of_decide_eq_true rfl) (of_decide_eq_true rfl) ?_
  refine wi_aload_n (i := 0) (x := 236) (nx := 1) (r1 := 0) (r2 := 0) (r3 := 0) rfl rfl ?_
  refine wi_iconst (n := 0) (nx := 2) (r1 := 0) (r2 := 0) (r3 := 0) rfl ?_
  refine wr_pf0 (k0 := 236) (x := 0) (bl := 0) (bh := 2) (nx := 5) (r1 := 11) (r2 := 0) (r3 := 0) rfl (by decide) rfl ⟨rfl, rfl⟩ rfl rfl g rfl (by omega) (fun h1 g1 w1 u1 => ?_)
  have F2 := F0.then rfl u1
  refine wi_aload_n (i := 0) (x := 236) (nx := 6) (r1 := 0) (r2 := 0) (r3 := 0) rfl rfl ?_
  refine wr_gr (k0 := 236) (x := 238) (nx := 9) (r1 := 11) (r2 := 13) (r3 := 0) rfl rfl (by decide) rfl ⟨rfl, rfl⟩ rfl ?_
  refine wi_iload_n (i := 1) (e := 72) (nx := 10) (r1 := 0) (r2 := 0) (r3 := 0) rfl rfl ?_
  have b3 := gi_b (lo := -2147483648) (hi := 2147483647) g 238 72 rfl
  refine wr_ia (k0 := 238) (a := 72) (f := 72) (x := h 238 72) (nx := 11) (r1 := 0) (r2 := 0) (r3 := 0) rfl (by decide) rfl (by omega) (by omega) (by decide) (u1 238 72 rfl) ?_
  refine wi_ireturn (nx := 12) (r1 := 0) (r2 := 0) (r3 := 0) rfl rfl ?_
  refine wk_i ?_
  refine wi_ireturn (nx := 7) (r1 := 0) (r2 := 0) (r3 := 0) rfl rfl ?_
  exact k h1 (h 238 72) g1 F2 (by omega)
