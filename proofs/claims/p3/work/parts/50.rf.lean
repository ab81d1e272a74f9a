-- method 263: Model.move(I)I
set_option maxRecDepth 100000 in
set_option maxHeartbeats 100000000 in
theorem ct_263_236 {L : Nat} {xs : Nat → Int32} {d b c : Nat} {h : hp} {cr : Nat → Nat → Option Nat} {Q : hp_Q} (hcr : CR cr)  (g : GI h) (a0 : Int) (q0_ : -2147483648 ≤ a0 ∧ a0 ≤ 2147483647)  (k : ∀ (h2 : hp) (z0 : Int) , GI h2 → FR [(236, 236, some (0, 0))] h h2 → (-12 ≤ z0 ∧ z0 ≤ 11) → Q (.inl (some (vi z0))) (hp_w h2 cr) b c) : wp (md_xa (L, xs)) (d + 2) 263 (0, [(0, .ref 236), (1, vi a0)], [], hp_w h cr, b, c) Q := by
  have F0 : FR [(236, 236, some (0, 0))] h h := FR.refl
  refine wi_aload_n (i := 0) (x := 236) (nx := 1) (r1 := 0) (r2 := 0) (r3 := 0) rfl rfl ?_
  refine wi_aload_n (i := 0) (x := 236) (nx := 2) (r1 := 0) (r2 := 0) (r3 := 0) rfl rfl ?_
  refine wi_iload_n (i := 1) (e := a0) (nx := 3) (r1 := 0) (r2 := 0) (r3 := 0) rfl rfl ?_
  refine wr_V (k0 := 236) (rest := [.ref 236]) (as := [.ref 236, vi a0]) (nx := 6) (r1 := 244) (r2 := 1) (r3 := 11) rfl rfl rfl (of_decide_eq_true rfl) rfl rfl (by decide) rfl rfl (of_decide_eq_true rfl) (of_decide_eq_true rfl) ?_
  refine wi_iload_n (i := 1) (e := a0) (nx := 1) (r1 := 0) (r2 := 0) (r3 := 0) rfl rfl ?_
  refine wi_i2l (nx := 2) (r1 := 0) (r2 := 0) (r3 := 0) rfl (by omega) ?_
  refine wi_lconst (n := 0) (e := 0) (nx := 3) (r1 := 0) (r2 := 0) (r3 := 0) rfl (by decide) ?_
  refine wi_aload_n (i := 0) (x := 236) (nx := 4) (r1 := 0) (r2 := 0) (r3 := 0) rfl rfl ?_
  refine wr_gr (k0 := 236) (x := 238) (nx := 7) (r1 := 11) (r2 := 13) (r3 := 0) rfl rfl (by decide) rfl ⟨rfl, rfl⟩ rfl ?_
  refine wi_iconst (n := 2) (nx := 8) (r1 := 0) (r2 := 0) (r3 := 0) rfl ?_
  have b1 := gi_b (lo := 0) (hi := 12) g 238 2 rfl
  refine wr_ia (k0 := 238) (a := 2) (f := 2) (x := h 238 2) (nx := 9) (r1 := 0) (r2 := 0) (r3 := 0) rfl (by decide) rfl (by omega) (by omega) (by decide) rfl ?_
  refine wi_iconst (n := 1) (nx := 10) (r1 := 0) (r2 := 0) (r3 := 0) rfl ?_
  refine wr_sub (nx := 11) (r1 := 0) (r2 := 0) (r3 := 0) rfl (fun e2 (fe2 : e2 = (h 238 2) - 1) => ?_)
  refine wi_i2l (nx := 12) (r1 := 0) (r2 := 0) (r3 := 0) rfl (by omega) ?_
  refine wi_S (rest := []) (as := [vl a0, vl 0, vl e2]) (nx := 15) (r1 := 210) (r2 := 19) (r3 := 0) rfl rfl rfl (of_decide_eq_true rfl) rfl rfl (of_decide_eq_true rfl) (of_decide_eq_true rfl) ?_
  refine wi_lload_n (i := 0) (e := a0) (nx := 1) (r1 := 0) (r2 := 0) (r3 := 0) rfl rfl ?_
  refine wi_lload_n (i := 2) (e := 0) (nx := 2) (r1 := 0) (r2 := 0) (r3 := 0) rfl rfl ?_
  refine wi_lcmp (a := a0) (e := 0) (nx := 3) (r1 := 0) (r2 := 0) (r3 := 0) rfl (by omega) (by omega) (fun r3 (fr3 : (r3 = -1 ∧ a0 < 0) ∨ (r3 = 0 ∧ a0 = 0) ∨ (r3 = 1 ∧ 0 < a0)) => ?_)
  refine wi_if (cd := .lt) (nx := 6) (r1 := 17) (r2 := 0) (r3 := 0) rfl (by omega) (fun (q4 : r3 < 0) => ?_) (fun (q4 : ¬ (r3 < 0)) => ?_)
  ·
    refine wi_iconst (n := 0) (nx := 18) (r1 := 0) (r2 := 0) (r3 := 0) rfl ?_
    refine wi_zreturn (nx := 19) (r1 := 0) (r2 := 0) (r3 := 0) rfl rfl (by omega) ?_
    refine wk_i ?_
    refine wi_zreturn (nx := 16) (r1 := 0) (r2 := 0) (r3 := 0) rfl rfl (by omega) ?_
    refine wk_i ?_
    refine wi_if (cd := .ne) (nx := 9) (r1 := 13) (r2 := 0) (r3 := 0) rfl (by omega) (fun (q5 : 0 ≠ 0) => by exfalso; omega) (fun (q5 : ¬ (0 ≠ 0)) => ?_)
    refine wi_iconst (n := 1) (nx := 10) (r1 := 0) (r2 := 0) (r3 := 0) rfl ?_
    refine wi_goto (nx := 13) (r1 := 32) (r2 := 0) (r3 := 0) rfl ?_
    refine wr_pf0 (k0 := 236) (x := 1) (bl := 0) (bh := 2) (nx := 35) (r1 := 11) (r2 := 0) (r3 := 0) rfl (by decide) rfl ⟨rfl, rfl⟩ rfl rfl g rfl (by omega) (fun h6 g6 w6 u6 => ?_)
    have F7 := F0.then rfl u6
    refine wi_aload_n (i := 0) (x := 236) (nx := 36) (r1 := 0) (r2 := 0) (r3 := 0) rfl rfl ?_
    refine wr_gi0 (k0 := 236) (x := 1) (nx := 39) (r1 := 11) (r2 := 0) (r3 := 0) rfl rfl (by decide) rfl ⟨rfl, rfl⟩ rfl w6 ?_
    refine wi_if (cd := .le) (nx := 42) (r1 := 46) (r2 := 0) (r3 := 0) rfl (by omega) (fun (q8 : 1 ≤ 0) => by exfalso; omega) (fun (q8 : ¬ (1 ≤ 0)) => ?_)
    refine wi_iconst (n := 0) (nx := 43) (r1 := 0) (r2 := 0) (r3 := 0) rfl ?_
    refine wi_goto (nx := 46) (r1 := 53) (r2 := 0) (r3 := 0) rfl ?_
    refine wi_ireturn (nx := 54) (r1 := 0) (r2 := 0) (r3 := 0) rfl rfl ?_
    exact k h6 0 g6 F7 (by omega)
  ·
    refine wi_lload_n (i := 0) (e := a0) (nx := 7) (r1 := 0) (r2 := 0) (r3 := 0) rfl rfl ?_
    refine wi_lload (i := 4) (e := e2) (nx := 9) (r1 := 0) (r2 := 0) (r3 := 0) rfl rfl ?_
    refine wi_lcmp (a := a0) (e := e2) (nx := 10) (r1 := 0) (r2 := 0) (r3 := 0) rfl (by omega) (by omega) (fun r5 (fr5 : (r5 = -1 ∧ a0 < e2) ∨ (r5 = 0 ∧ a0 = e2) ∨ (r5 = 1 ∧ e2 < a0)) => ?_)
    refine wi_if (cd := .gt) (nx := 13) (r1 := 17) (r2 := 0) (r3 := 0) rfl (by omega) (fun (q6 : 0 < r5) => ?_) (fun (q6 : ¬ (0 < r5)) => ?_)
    ·
      refine wi_iconst (n := 0) (nx := 18) (r1 := 0) (r2 := 0) (r3 := 0) rfl ?_
      refine wi_zreturn (nx := 19) (r1 := 0) (r2 := 0) (r3 := 0) rfl rfl (by omega) ?_
      refine wk_i ?_
      refine wi_zreturn (nx := 16) (r1 := 0) (r2 := 0) (r3 := 0) rfl rfl (by omega) ?_
      refine wk_i ?_
      refine wi_if (cd := .ne) (nx := 9) (r1 := 13) (r2 := 0) (r3 := 0) rfl (by omega) (fun (q7 : 0 ≠ 0) => by exfalso; omega) (fun (q7 : ¬ (0 ≠ 0)) => ?_)
      refine wi_iconst (n := 1) (nx := 10) (r1 := 0) (r2 := 0) (r3 := 0) rfl ?_
      refine wi_goto (nx := 13) (r1 := 32) (r2 := 0) (r3 := 0) rfl ?_
      refine wr_pf0 (k0 := 236) (x := 1) (bl := 0) (bh := 2) (nx := 35) (r1 := 11) (r2 := 0) (r3 := 0) rfl (by decide) rfl ⟨rfl, rfl⟩ rfl rfl g rfl (by omega) (fun h8 g8 w8 u8 => ?_)
      have F9 := F0.then rfl u8
      refine wi_aload_n (i := 0) (x := 236) (nx := 36) (r1 := 0) (r2 := 0) (r3 := 0) rfl rfl ?_
      refine wr_gi0 (k0 := 236) (x := 1) (nx := 39) (r1 := 11) (r2 := 0) (r3 := 0) rfl rfl (by decide) rfl ⟨rfl, rfl⟩ rfl w8 ?_
      refine wi_if (cd := .le) (nx := 42) (r1 := 46) (r2 := 0) (r3 := 0) rfl (by omega) (fun (q10 : 1 ≤ 0) => by exfalso; omega) (fun (q10 : ¬ (1 ≤ 0)) => ?_)
      refine wi_iconst (n := 0) (nx := 43) (r1 := 0) (r2 := 0) (r3 := 0) rfl ?_
      refine wi_goto (nx := 46) (r1 := 53) (r2 := 0) (r3 := 0) rfl ?_
      refine wi_ireturn (nx := 54) (r1 := 0) (r2 := 0) (r3 := 0) rfl rfl ?_
      exact k h8 0 g8 F9 (by omega)
    ·
      refine wi_iconst (n := 1) (nx := 14) (r1 := 0) (r2 := 0) (r3 := 0) rfl ?_
      refine wi_goto (nx := 17) (r1 := 18) (r2 := 0) (r3 := 0) rfl ?_
      refine wi_zreturn (nx := 19) (r1 := 0) (r2 := 0) (r3 := 0) rfl rfl (by omega) ?_
      refine wk_i ?_
      refine wi_zreturn (nx := 16) (r1 := 0) (r2 := 0) (r3 := 0) rfl rfl (by omega) ?_
      refine wk_i ?_
      refine wi_if (cd := .ne) (nx := 9) (r1 := 13) (r2 := 0) (r3 := 0) rfl (by omega) (fun (q7 : 1 ≠ 0) => ?_) (fun (q7 : ¬ (1 ≠ 0)) => by exfalso; omega)
      refine wi_aload_n (i := 0) (x := 236) (nx := 14) (r1 := 0) (r2 := 0) (r3 := 0) rfl rfl ?_
      refine wi_iload_n (i := 1) (e := a0) (nx := 15) (r1 := 0) (r2 := 0) (r3 := 0) rfl rfl ?_
      refine wr_V (k0 := 236) (rest := [.ref 236]) (as := [.ref 236, vi a0]) (nx := 18) (r1 := 253) (r2 := 1) (r3 := 11) rfl rfl rfl (of_decide_eq_true rfl) rfl rfl (by decide) rfl rfl (of_decide_eq_true rfl) (of_decide_eq_true rfl) ?_
      refine wi_aload_n (i := 0) (x := 236) (nx := 1) (r1 := 0) (r2 := 0) (r3 := 0) rfl rfl ?_
      refine wi_bipush (n := 107) (nx := 3) (r1 := 0) (r2 := 0) (r3 := 0) rfl (by decide) ?_
      refine wi_aload_n (i := 0) (x := 236) (nx := 4) (r1 := 0) (r2 := 0) (r3 := 0) rfl rfl ?_
      refine wr_gr (k0 := 236) (x := 238) (nx := 7) (r1 := 11) (r2 := 13) (r3 := 0) rfl rfl (by decide) rfl ⟨rfl, rfl⟩ rfl ?_
      refine wi_bipush (n := 106) (nx := 9) (r1 := 0) (r2 := 0) (r3 := 0) rfl (by decide) ?_
      have b8 := gi_b (lo := 0) (hi := 12) g 238 106 rfl
      refine wr_ia (k0 := 238) (a := 106) (f := 106) (x := h 238 106) (nx := 10) (r1 := 0) (r2 := 0) (r3 := 0) rfl (by decide) rfl (by omega) (by omega) (by decide) rfl ?_
      refine wi_iload_n (i := 1) (e := a0) (nx := 11) (r1 := 0) (r2 := 0) (r3 := 0) rfl rfl ?_
      refine wr_V (k0 := 236) (rest := []) (as := [.ref 236, vi 107, vi (h 238 106), vi a0]) (nx := 14) (r1 := 254) (r2 := 3) (r3 := 11) rfl rfl rfl (of_decide_eq_true rfl) rfl rfl (by decide) rfl rfl (of_decide_eq_true rfl) (of_decide_eq_true rfl) ?_
      refine wi_iconst (n := 0) (nx := 1) (r1 := 0) (r2 := 0) (r3 := 0) rfl ?_
      refine wi_istore (i := 4) (e := 0) (lo2 := [(4, vi 0), (0, .ref 236), (1, vi 107), (2, vi (h 238 106)), (3, vi a0)]) (nx := 3) (r1 := 0) (r2 := 0) (r3 := 0) rfl rfl ?_
      refine wp.lo (lo := [(0, .ref 236), (1, vi 107), (2, vi (h 238 106)), (3, vi a0), (4, vi 0)]) ⟨rfl, rfl, rfl, rfl, rfl, trivial⟩ rfl ?_
      refine wl_1 (fun x9 h10 => h = h10 ∧ ((0 ≤ x9 ∧ x9 ≤ 12))) (fun x9 h10 => ((12 : Int) + 1 - x9).toNat) (fun x9 h10 => (3, [(0, .ref 236), (1, vi 107), (2, vi (h 238 106)), (3, vi a0), (4, vi x9)], [], hp_w h10 cr, b, c)) ?_ 0 h ⟨rfl, (show (0 ≤ 0 ∧ 0 ≤ 12) by omega)⟩
      intro x9 h10 ⟨e10, f10⟩ I10
      subst e10
      refine wi_iload (i := 4) (e := x9) (nx := 5) (r1 := 0) (r2 := 0) (r3 := 0) rfl rfl ?_
      refine wi_iload_n (i := 2) (e := h 238 106) (nx := 6) (r1 := 0) (r2 := 0) (r3 := 0) rfl rfl ?_
      refine wi_icmp (cd := .ge) (nx := 9) (r1 := 31) (r2 := 0) (r3 := 0) rfl (by omega) (by omega) (fun (q12 : (h 238 106) ≤ x9) => ?_) (fun (q12 : ¬ ((h 238 106) ≤ x9)) => ?_)
      ·
        refine wi_iconst (n := (-1)) (nx := 32) (r1 := 0) (r2 := 0) (r3 := 0) rfl ?_
        refine wi_ireturn (nx := 33) (r1 := 0) (r2 := 0) (r3 := 0) rfl rfl ?_
        refine wk_i ?_
        refine wi_ireturn (nx := 15) (r1 := 0) (r2 := 0) (r3 := 0) rfl rfl ?_
        refine wk_i ?_
        refine wi_iconst (n := (-1)) (nx := 19) (r1 := 0) (r2 := 0) (r3 := 0) rfl ?_
        refine wi_icmp (cd := .ne) (nx := 22) (r1 := 26) (r2 := 0) (r3 := 0) rfl (by omega) (by omega) (fun (q13 : (-1) ≠ (-1)) => by exfalso; omega) (fun (q13 : ¬ ((-1) ≠ (-1))) => ?_)
        refine wi_iconst (n := 1) (nx := 23) (r1 := 0) (r2 := 0) (r3 := 0) rfl ?_
        refine wi_goto (nx := 26) (r1 := 27) (r2 := 0) (r3 := 0) rfl ?_
        refine wi_S (rest := [.ref 236]) (as := [vi 1]) (nx := 30) (r1 := 207) (r2 := 17) (r3 := 0) rfl rfl rfl (of_decide_eq_true rfl) rfl rfl (of_decide_eq_true rfl) (of_decide_eq_true rfl) ?_
        refine wi_iload_n (i := 0) (e := 1) (nx := 1) (r1 := 0) (r2 := 0) (r3 := 0) rfl rfl ?_
        refine wi_if (cd := .eq) (nx := 4) (r1 := 8) (r2 := 0) (r3 := 0) rfl (by omega) (fun (q14 : 1 = 0) => by exfalso; omega) (fun (q14 : ¬ (1 = 0)) => ?_)
        refine wi_iconst (n := 1) (nx := 5) (r1 := 0) (r2 := 0) (r3 := 0) rfl ?_
        refine wi_goto (nx := 8) (r1 := 9) (r2 := 0) (r3 := 0) rfl ?_
        refine wi_ireturn (nx := 10) (r1 := 0) (r2 := 0) (r3 := 0) rfl rfl ?_
        refine wk_i ?_
        refine wi_iconst (n := 2) (nx := 31) (r1 := 0) (r2 := 0) (r3 := 0) rfl ?_
        refine wr_mulL (2) (nx := 32) (r1 := 0) (r2 := 0) (r3 := 0) rfl (by decide) ?_
        refine wr_pf0 (k0 := 236) (x := 2) (bl := 0) (bh := 2) (nx := 35) (r1 := 11) (r2 := 0) (r3 := 0) rfl (by decide) rfl ⟨rfl, rfl⟩ rfl rfl g rfl (by omega) (fun h15 g15 w15 u15 => ?_)
        have F16 := F0.then rfl u15
        refine wi_aload_n (i := 0) (x := 236) (nx := 36) (r1 := 0) (r2 := 0) (r3 := 0) rfl rfl ?_
        refine wr_gi0 (k0 := 236) (x := 2) (nx := 39) (r1 := 11) (r2 := 0) (r3 := 0) rfl rfl (by decide) rfl ⟨rfl, rfl⟩ rfl w15 ?_
        refine wi_if (cd := .le) (nx := 42) (r1 := 46) (r2 := 0) (r3 := 0) rfl (by omega) (fun (q17 : 2 ≤ 0) => by exfalso; omega) (fun (q17 : ¬ (2 ≤ 0)) => ?_)
        refine wi_iconst (n := 0) (nx := 43) (r1 := 0) (r2 := 0) (r3 := 0) rfl ?_
        refine wi_goto (nx := 46) (r1 := 53) (r2 := 0) (r3 := 0) rfl ?_
        refine wi_ireturn (nx := 54) (r1 := 0) (r2 := 0) (r3 := 0) rfl rfl ?_
        exact k h15 0 g15 F16 (by omega)
      ·
        refine wi_aload_n (i := 0) (x := 236) (nx := 10) (r1 := 0) (r2 := 0) (r3 := 0) rfl rfl ?_
        refine wr_gr (k0 := 236) (x := 238) (nx := 13) (r1 := 11) (r2 := 13) (r3 := 0) rfl rfl (by decide) rfl ⟨rfl, rfl⟩ rfl ?_
        refine wi_iload_n (i := 1) (e := 107) (nx := 14) (r1 := 0) (r2 := 0) (r3 := 0) rfl rfl ?_
        refine wi_iload (i := 4) (e := x9) (nx := 16) (r1 := 0) (r2 := 0) (r3 := 0) rfl rfl ?_
        refine wr_add (nx := 17) (r1 := 0) (r2 := 0) (r3 := 0) rfl (fun e13 (fe13 : e13 = 107 + x9) => ?_)
        obtain ⟨i14, ei14⟩ : ∃ q : Nat, e13 = (q : Int) := ⟨(e13).toNat, by omega⟩
        have b15 := gi_b (lo := 0) (hi := 11) g 238 i14 (gi_rg 107 12 (fun _ => rfl) (by decide +kernel) (by omega))
        refine wr_ia (k0 := 238) (a := e13) (f := i14) (x := h 238 i14) (nx := 18) (r1 := 0) (r2 := 0) (r3 := 0) rfl (by decide) rfl (by omega) (by omega) (by decide) rfl ?_
        refine wi_iload_n (i := 3) (e := a0) (nx := 19) (r1 := 0) (r2 := 0) (r3 := 0) rfl rfl ?_
        refine wi_icmp (cd := .ne) (nx := 22) (r1 := 25) (r2 := 0) (r3 := 0) rfl (by omega) (by omega) (fun (q16 : (h 238 i14) ≠ a0) => ?_) (fun (q16 : ¬ ((h 238 i14) ≠ a0)) => ?_)
        ·
          refine wr_iinc (i := 4) (n := 1) (v := x9) (fun e17 => [(4, vi e17), (0, .ref 236), (1, vi 107), (2, vi (h 238 106)), (3, vi a0)]) (nx := 28) (r1 := 0) (r2 := 0) (r3 := 0) rfl rfl (fun _ => rfl) (fun e17 (fe17 : e17 = x9 + 1) => ?_)
          refine wi_goto (nx := 31) (r1 := 3) (r2 := 0) (r3 := 0) rfl ?_
          refine wp.lo (lo := [(0, .ref 236), (1, vi 107), (2, vi (h 238 106)), (3, vi a0), (4, vi e17)]) ⟨rfl, rfl, rfl, rfl, rfl, trivial⟩ rfl ?_
          exact I10 e17 h ⟨rfl, (show (0 ≤ e17 ∧ e17 ≤ 12) by omega)⟩ (show ((12 : Int) + 1 - e17).toNat < ((12 : Int) + 1 - x9).toNat by omega)
        ·
          refine wi_iload (i := 4) (e := x9) (nx := 24) (r1 := 0) (r2 := 0) (r3 := 0) rfl rfl ?_
          refine wi_ireturn (nx := 25) (r1 := 0) (r2 := 0) (r3 := 0) rfl rfl ?_
          refine wk_i ?_
          refine wi_ireturn (nx := 15) (r1 := 0) (r2 := 0) (r3 := 0) rfl rfl ?_
          refine wk_i ?_
          refine wi_iconst (n := (-1)) (nx := 19) (r1 := 0) (r2 := 0) (r3 := 0) rfl ?_
          refine wi_icmp (cd := .ne) (nx := 22) (r1 := 26) (r2 := 0) (r3 := 0) rfl (by omega) (by omega) (fun (q17 : x9 ≠ (-1)) => ?_) (fun (q17 : ¬ (x9 ≠ (-1))) => by exfalso; omega)
          refine wi_iconst (n := 0) (nx := 27) (r1 := 0) (r2 := 0) (r3 := 0) rfl ?_
          refine wi_S (rest := [.ref 236]) (as := [vi 0]) (nx := 30) (r1 := 207) (r2 := 17) (r3 := 0) rfl rfl rfl (of_decide_eq_true rfl) rfl rfl (of_decide_eq_true rfl) (of_decide_eq_true rfl) ?_
          refine wi_iload_n (i := 0) (e := 0) (nx := 1) (r1 := 0) (r2 := 0) (r3 := 0) rfl rfl ?_
          refine wi_if (cd := .eq) (nx := 4) (r1 := 8) (r2 := 0) (r3 := 0) rfl (by omega) (fun (q18 : 0 = 0) => ?_) (fun (q18 : ¬ (0 = 0)) => by exfalso; omega)
          refine wi_iconst (n := 0) (nx := 9) (r1 := 0) (r2 := 0) (r3 := 0) rfl ?_
          refine wi_ireturn (nx := 10) (r1 := 0) (r2 := 0) (r3 := 0) rfl rfl ?_
          refine wk_i ?_
          refine wi_iconst (n := 2) (nx := 31) (r1 := 0) (r2 := 0) (r3 := 0) rfl ?_
          refine wr_mulL (0) (nx := 32) (r1 := 0) (r2 := 0) (r3 := 0) rfl (by decide) ?_
          refine wr_pf0 (k0 := 236) (x := 0) (bl := 0) (bh := 2) (nx := 35) (r1 := 11) (r2 := 0) (r3 := 0) rfl (by decide) rfl ⟨rfl, rfl⟩ rfl rfl g rfl (by omega) (fun h19 g19 w19 u19 => ?_)
          have F20 := F0.then rfl u19
          refine wi_aload_n (i := 0) (x := 236) (nx := 36) (r1 := 0) (r2 := 0) (r3 := 0) rfl rfl ?_
          refine wr_gi0 (k0 := 236) (x := 0) (nx := 39) (r1 := 11) (r2 := 0) (r3 := 0) rfl rfl (by decide) rfl ⟨rfl, rfl⟩ rfl w19 ?_
          refine wi_if (cd := .le) (nx := 42) (r1 := 46) (r2 := 0) (r3 := 0) rfl (by omega) (fun (q21 : 0 ≤ 0) => ?_) (fun (q21 : ¬ (0 ≤ 0)) => by exfalso; omega)
          refine wi_aload_n (i := 0) (x := 236) (nx := 47) (r1 := 0) (r2 := 0) (r3 := 0) rfl rfl ?_
          refine wi_iload_n (i := 1) (e := a0) (nx := 48) (r1 := 0) (r2 := 0) (r3 := 0) rfl rfl ?_
          refine wr_V (k0 := 236) (rest := []) (as := [.ref 236, vi a0]) (nx := 51) (r1 := 253) (r2 := 1) (r3 := 11) rfl rfl rfl (of_decide_eq_true rfl) rfl rfl (by decide) rfl rfl (of_decide_eq_true rfl) (of_decide_eq_true rfl) ?_
          refine wi_aload_n (i := 0) (x := 236) (nx := 1) (r1 := 0) (r2 := 0) (r3 := 0) rfl rfl ?_
          refine wi_bipush (n := 107) (nx := 3) (r1 := 0) (r2 := 0) (r3 := 0) rfl (by decide) ?_
          refine wi_aload_n (i := 0) (x := 236) (nx := 4) (r1 := 0) (r2 := 0) (r3 := 0) rfl rfl ?_
          refine wr_gr (k0 := 236) (x := 238) (nx := 7) (r1 := 11) (r2 := 13) (r3 := 0) rfl rfl (by decide) rfl ⟨rfl, rfl⟩ rfl ?_
          refine wi_bipush (n := 106) (nx := 9) (r1 := 0) (r2 := 0) (r3 := 0) rfl (by decide) ?_
          refine wr_ia (k0 := 238) (a := 106) (f := 106) (x := h 238 106) (nx := 10) (r1 := 0) (r2 := 0) (r3 := 0) rfl (by decide) rfl (by omega) (by omega) (by decide) (u19 238 106 rfl) ?_
          refine wi_iload_n (i := 1) (e := a0) (nx := 11) (r1 := 0) (r2 := 0) (r3 := 0) rfl rfl ?_
          refine wr_V (k0 := 236) (rest := []) (as := [.ref 236, vi 107, vi (h 238 106), vi a0]) (nx := 14) (r1 := 254) (r2 := 3) (r3 := 11) rfl rfl rfl (of_decide_eq_true rfl) rfl rfl (by decide) rfl rfl (of_decide_eq_true rfl) (of_decide_eq_true rfl) ?_
          refine wi_iconst (n := 0) (nx := 1) (r1 := 0) (r2 := 0) (r3 := 0) rfl ?_
          refine wi_istore (i := 4) (e := 0) (lo2 := [(4, vi 0), (0, .ref 236), (1, vi 107), (2, vi (h 238 106)), (3, vi a0)]) (nx := 3) (r1 := 0) (r2 := 0) (r3 := 0) rfl rfl ?_
          refine wp.lo (lo := [(0, .ref 236), (1, vi 107), (2, vi (h 238 106)), (3, vi a0), (4, vi 0)]) ⟨rfl, rfl, rfl, rfl, rfl, trivial⟩ rfl ?_
          refine wl_1 (fun x22 h23 => h19 = h23 ∧ ((0 ≤ x22 ∧ x22 ≤ 12))) (fun x22 h23 => ((12 : Int) + 1 - x22).toNat) (fun x22 h23 => (3, [(0, .ref 236), (1, vi 107), (2, vi (h 238 106)), (3, vi a0), (4, vi x22)], [], hp_w h23 cr, b, c)) ?_ 0 h19 ⟨rfl, (show (0 ≤ 0 ∧ 0 ≤ 12) by omega)⟩
          intro x22 h23 ⟨e23, f23⟩ I23
          subst e23
          refine wi_iload (i := 4) (e := x22) (nx := 5) (r1 := 0) (r2 := 0) (r3 := 0) rfl rfl ?_
          refine wi_iload_n (i := 2) (e := h 238 106) (nx := 6) (r1 := 0) (r2 := 0) (r3 := 0) rfl rfl ?_
          refine wi_icmp (cd := .ge) (nx := 9) (r1 := 31) (r2 := 0) (r3 := 0) rfl (by omega) (by omega) (fun (q25 : (h 238 106) ≤ x22) => ?_) (fun (q25 : ¬ ((h 238 106) ≤ x22)) => ?_)
          ·
            refine wi_iconst (n := (-1)) (nx := 32) (r1 := 0) (r2 := 0) (r3 := 0) rfl ?_
            refine wi_ireturn (nx := 33) (r1 := 0) (r2 := 0) (r3 := 0) rfl rfl ?_
            refine wk_i ?_
            refine wi_ireturn (nx := 15) (r1 := 0) (r2 := 0) (r3 := 0) rfl rfl ?_
            refine wk_i ?_
            refine wi_iload_n (i := 1) (e := a0) (nx := 52) (r1 := 0) (r2 := 0) (r3 := 0) rfl rfl ?_
            refine wr_sub (nx := 53) (r1 := 0) (r2 := 0) (r3 := 0) rfl (fun e26 (fe26 : e26 = (-1) - a0) => ?_)
            refine wi_ireturn (nx := 54) (r1 := 0) (r2 := 0) (r3 := 0) rfl rfl ?_
            exact k h19 e26 g19 F20 (by omega)
          ·
            refine wi_aload_n (i := 0) (x := 236) (nx := 10) (r1 := 0) (r2 := 0) (r3 := 0) rfl rfl ?_
            refine wr_gr (k0 := 236) (x := 238) (nx := 13) (r1 := 11) (r2 := 13) (r3 := 0) rfl rfl (by decide) rfl ⟨rfl, rfl⟩ rfl ?_
            refine wi_iload_n (i := 1) (e := 107) (nx := 14) (r1 := 0) (r2 := 0) (r3 := 0) rfl rfl ?_
            refine wi_iload (i := 4) (e := x22) (nx := 16) (r1 := 0) (r2 := 0) (r3 := 0) rfl rfl ?_
            refine wr_add (nx := 17) (r1 := 0) (r2 := 0) (r3 := 0) rfl (fun e26 (fe26 : e26 = 107 + x22) => ?_)
            obtain ⟨i27, ei27⟩ : ∃ q : Nat, e26 = (q : Int) := ⟨(e26).toNat, by omega⟩
            have b28 := gi_b (lo := 0) (hi := 11) g 238 i27 (gi_rg 107 12 (fun _ => rfl) (by decide +kernel) (by omega))
            refine wr_ia (k0 := 238) (a := e26) (f := i27) (x := h 238 i27) (nx := 18) (r1 := 0) (r2 := 0) (r3 := 0) rfl (by decide) rfl (by omega) (by omega) (by decide) (u19 238 i27 (fn_a (by omega) fn_0)) ?_
            refine wi_iload_n (i := 3) (e := a0) (nx := 19) (r1 := 0) (r2 := 0) (r3 := 0) rfl rfl ?_
            refine wi_icmp (cd := .ne) (nx := 22) (r1 := 25) (r2 := 0) (r3 := 0) rfl (by omega) (by omega) (fun (q29 : (h 238 i27) ≠ a0) => ?_) (fun (q29 : ¬ ((h 238 i27) ≠ a0)) => ?_)
            ·
              refine wr_iinc (i := 4) (n := 1) (v := x22) (fun e30 => [(4, vi e30), (0, .ref 236), (1, vi 107), (2, vi (h 238 106)), (3, vi a0)]) (nx := 28) (r1 := 0) (r2 := 0) (r3 := 0) rfl rfl (fun _ => rfl) (fun e30 (fe30 : e30 = x22 + 1) => ?_)
              refine wi_goto (nx := 31) (r1 := 3) (r2 := 0) (r3 := 0) rfl ?_
              refine wp.lo (lo := [(0, .ref 236), (1, vi 107), (2, vi (h 238 106)), (3, vi a0), (4, vi e30)]) ⟨rfl, rfl, rfl, rfl, rfl, trivial⟩ rfl ?_
              exact I23 e30 h19 ⟨rfl, (show (0 ≤ e30 ∧ e30 ≤ 12) by omega)⟩ (show ((12 : Int) + 1 - e30).toNat < ((12 : Int) + 1 - x22).toNat by omega)
            ·
              refine wi_iload (i := 4) (e := x22) (nx := 24) (r1 := 0) (r2 := 0) (r3 := 0) rfl rfl ?_
              refine wi_ireturn (nx := 25) (r1 := 0) (r2 := 0) (r3 := 0) rfl rfl ?_
              refine wk_i ?_
              refine wi_ireturn (nx := 15) (r1 := 0) (r2 := 0) (r3 := 0) rfl rfl ?_
              refine wk_i ?_
              refine wi_iload_n (i := 1) (e := a0) (nx := 52) (r1 := 0) (r2 := 0) (r3 := 0) rfl rfl ?_
              refine wr_sub (nx := 53) (r1 := 0) (r2 := 0) (r3 := 0) rfl (fun e30 (fe30 : e30 = x22 - a0) => ?_)
              refine wi_ireturn (nx := 54) (r1 := 0) (r2 := 0) (r3 := 0) rfl rfl ?_
              exact k h19 e30 g19 F20 (by omega)
-- method 262: Model.out(I)I
set_option maxRecDepth 100000 in
set_option maxHeartbeats 100000000 in
theorem ct_262_236 {L : Nat} {xs : Nat → Int32} {d b c : Nat} {h : hp} {cr : Nat → Nat → Option Nat} {Q : hp_Q} (hcr : CR cr)  (g : GI h) (a0 : Int) (q0_ : -2147483648 ≤ a0 ∧ a0 ≤ 2147483647)  (k : ∀ (h2 : hp) (z0 : Int) , GI h2 → FR [(236, 236, some (0, 0))] h h2 → (-1 ≤ z0 ∧ z0 ≤ 11) → Q (.inl (some (vi z0))) (hp_w h2 cr) b c) : wp (md_xa (L, xs)) (d + 1) 262 (0, [(0, .ref 236), (1, vi a0)], [], hp_w h cr, b, c) Q := by
  have F0 : FR [(236, 236, some (0, 0))] h h := FR.refl
  refine wi_aload_n (i := 0) (x := 236) (nx := 1) (r1 := 0) (r2 := 0) (r3 := 0) rfl rfl ?_
  refine wi_iconst (n := 0) (nx := 2) (r1 := 0) (r2 := 0) (r3 := 0) rfl ?_
  refine wr_pf0 (k0 := 236) (x := 0) (bl := 0) (bh := 2) (nx := 5) (r1 := 11) (r2 := 0) (r3 := 0) rfl (by decide) rfl ⟨rfl, rfl⟩ rfl rfl g rfl (by omega) (fun h1 g1 w1 u1 => ?_)
  have F2 := F0.then rfl u1
  refine wi_iload_n (i := 1) (e := a0) (nx := 6) (r1 := 0) (r2 := 0) (r3 := 0) rfl rfl ?_
  refine wi_i2l (nx := 7) (r1 := 0) (r2 := 0) (r3 := 0) rfl (by omega) ?_
  refine wi_lconst (n := 0) (e := 0) (nx := 8) (r1 := 0) (r2 := 0) (r3 := 0) rfl (by decide) ?_
  refine wi_aload_n (i := 0) (x := 236) (nx := 9) (r1 := 0) (r2 := 0) (r3 := 0) rfl rfl ?_
  refine wr_gr (k0 := 236) (x := 238) (nx := 12) (r1 := 11) (r2 := 13) (r3 := 0) rfl rfl (by decide) rfl ⟨rfl, rfl⟩ rfl ?_
  refine wi_bipush (n := 106) (nx := 14) (r1 := 0) (r2 := 0) (r3 := 0) rfl (by decide) ?_
  have b3 := gi_b (lo := 0) (hi := 12) g 238 106 rfl
  refine wr_ia (k0 := 238) (a := 106) (f := 106) (x := h 238 106) (nx := 15) (r1 := 0) (r2 := 0) (r3 := 0) rfl (by decide) rfl (by omega) (by omega) (by decide) (u1 238 106 rfl) ?_
  refine wi_iconst (n := 1) (nx := 16) (r1 := 0) (r2 := 0) (r3 := 0) rfl ?_
  refine wr_sub (nx := 17) (r1 := 0) (r2 := 0) (r3 := 0) rfl (fun e4 (fe4 : e4 = (h 238 106) - 1) => ?_)
  refine wi_i2l (nx := 18) (r1 := 0) (r2 := 0) (r3 := 0) rfl (by omega) ?_
  refine wi_S (rest := []) (as := [vl a0, vl 0, vl e4]) (nx := 21) (r1 := 210) (r2 := 19) (r3 := 0) rfl rfl rfl (of_decide_eq_true rfl) rfl rfl (of_decide_eq_true rfl) (of_decide_eq_true rfl) ?_
  refine wi_lload_n (i := 0) (e := a0) (nx := 1) (r1 := 0) (r2 := 0) (r3 := 0) rfl rfl ?_
  refine wi_lload_n (i := 2) (e := 0) (nx := 2) (r1 := 0) (r2 := 0) (r3 := 0) rfl rfl ?_
  refine wi_lcmp (a := a0) (e := 0) (nx := 3) (r1 := 0) (r2 := 0) (r3 := 0) rfl (by omega) (by omega) (fun r5 (fr5 : (r5 = -1 ∧ a0 < 0) ∨ (r5 = 0 ∧ a0 = 0) ∨ (r5 = 1 ∧ 0 < a0)) => ?_)
  refine wi_if (cd := .lt) (nx := 6) (r1 := 17) (r2 := 0) (r3 := 0) rfl (by omega) (fun (q6 : r5 < 0) => ?_) (fun (q6 : ¬ (r5 < 0)) => ?_)
  ·
    refine wi_iconst (n := 0) (nx := 18) (r1 := 0) (r2 := 0) (r3 := 0) rfl ?_
    refine wi_zreturn (nx := 19) (r1 := 0) (r2 := 0) (r3 := 0) rfl rfl (by omega) ?_
    refine wk_i ?_
    refine wi_if (cd := .eq) (nx := 24) (r1 := 36) (r2 := 0) (r3 := 0) rfl (by omega) (fun (q7 : 0 = 0) => ?_) (fun (q7 : ¬ (0 = 0)) => by exfalso; omega)
    refine wi_iconst (n := (-1)) (nx := 37) (r1 := 0) (r2 := 0) (r3 := 0) rfl ?_
    refine wi_ireturn (nx := 38) (r1 := 0) (r2 := 0) (r3 := 0) rfl rfl ?_
    exact k h1 (-1) g1 F2 (by omega)
  ·
    refine wi_lload_n (i := 0) (e := a0) (nx := 7) (r1 := 0) (r2 := 0) (r3 := 0) rfl rfl ?_
    refine wi_lload (i := 4) (e := e4) (nx := 9) (r1 := 0) (r2 := 0) (r3 := 0) rfl rfl ?_
    refine wi_lcmp (a := a0) (e := e4) (nx := 10) (r1 := 0) (r2 := 0) (r3 := 0) rfl (by omega) (by omega) (fun r7 (fr7 : (r7 = -1 ∧ a0 < e4) ∨ (r7 = 0 ∧ a0 = e4) ∨ (r7 = 1 ∧ e4 < a0)) => ?_)
    refine wi_if (cd := .gt) (nx := 13) (r1 := 17) (r2 := 0) (r3 := 0) rfl (by omega) (fun (q8 : 0 < r7) => ?_) (fun (q8 : ¬ (0 < r7)) => ?_)
    ·
      refine wi_iconst (n := 0) (nx := 18) (r1 := 0) (r2 := 0) (r3 := 0) rfl ?_
      refine wi_zreturn (nx := 19) (r1 := 0) (r2 := 0) (r3 := 0) rfl rfl (by omega) ?_
      refine wk_i ?_
      refine wi_if (cd := .eq) (nx := 24) (r1 := 36) (r2 := 0) (r3 := 0) rfl (by omega) (fun (q9 : 0 = 0) => ?_) (fun (q9 : ¬ (0 = 0)) => by exfalso; omega)
      refine wi_iconst (n := (-1)) (nx := 37) (r1 := 0) (r2 := 0) (r3 := 0) rfl ?_
      refine wi_ireturn (nx := 38) (r1 := 0) (r2 := 0) (r3 := 0) rfl rfl ?_
      exact k h1 (-1) g1 F2 (by omega)
    ·
      refine wi_iconst (n := 1) (nx := 14) (r1 := 0) (r2 := 0) (r3 := 0) rfl ?_
      refine wi_goto (nx := 17) (r1 := 18) (r2 := 0) (r3 := 0) rfl ?_
      refine wi_zreturn (nx := 19) (r1 := 0) (r2 := 0) (r3 := 0) rfl rfl (by omega) ?_
      refine wk_i ?_
      refine wi_if (cd := .eq) (nx := 24) (r1 := 36) (r2 := 0) (r3 := 0) rfl (by omega) (fun (q9 : 1 = 0) => by exfalso; omega) (fun (q9 : ¬ (1 = 0)) => ?_)
      refine wi_aload_n (i := 0) (x := 236) (nx := 25) (r1 := 0) (r2 := 0) (r3 := 0) rfl rfl ?_
      refine wr_gr (k0 := 236) (x := 238) (nx := 28) (r1 := 11) (r2 := 13) (r3 := 0) rfl rfl (by decide) rfl ⟨rfl, rfl⟩ rfl ?_
      refine wi_bipush (n := 107) (nx := 30) (r1 := 0) (r2 := 0) (r3 := 0) rfl (by decide) ?_
      refine wi_iload_n (i := 1) (e := a0) (nx := 31) (r1 := 0) (r2 := 0) (r3 := 0) rfl rfl ?_
      refine wr_add (nx := 32) (r1 := 0) (r2 := 0) (r3 := 0) rfl (fun e10 (fe10 : e10 = 107 + a0) => ?_)
      obtain ⟨i11, ei11⟩ : ∃ q : Nat, e10 = (q : Int) := ⟨(e10).toNat, by omega⟩
      have b12 := gi_b (lo := 0) (hi := 11) g 238 i11 (gi_rg 107 12 (fun _ => rfl) (by decide +kernel) (by omega))
      refine wr_ia (k0 := 238) (a := e10) (f := i11) (x := h 238 i11) (nx := 33) (r1 := 0) (r2 := 0) (r3 := 0) rfl (by decide) rfl (by omega) (by omega) (by decide) (u1 238 i11 (fn_a (by omega) fn_0)) ?_
      refine wi_goto (nx := 36) (r1 := 37) (r2 := 0) (r3 := 0) rfl ?_
      refine wi_ireturn (nx := 38) (r1 := 0) (r2 := 0) (r3 := 0) rfl rfl ?_
      exact k h1 (h 238 i11) g1 F2 (by omega)
-- method 261: Model.outCount()I
set_option maxRecDepth 100000 in
set_option maxHeartbeats 100000000 in
theorem ct_261_236 {L : Nat} {xs : Nat → Int32} {d b c : Nat} {h : hp} {cr : Nat → Nat → Option Nat} {Q : hp_Q} (hcr : CR cr)  (g : GI h)    (k : ∀ (h2 : hp) (z0 : Int) , GI h2 → FR [(236, 236, some (0, 0))] h h2 → (0 ≤ z0 ∧ z0 ≤ 12) → Q (.inl (some (vi z0))) (hp_w h2 cr) b c) : wp (md_xa (L, xs)) d 261 (0, [(0, .ref 236)], [], hp_w h cr, b, c) Q := by
  have F0 : FR [(236, 236, some (0, 0))] h h := FR.refl
  refine wi_aload_n (i := 0) (x := 236) (nx := 1) (r1 := 0) (r2 := 0) (r3 := 0) rfl rfl ?_
  refine wi_iconst (n := 0) (nx := 2) (r1 := 0) (r2 := 0) (r3 := 0) rfl ?_
  refine wr_pf0 (k0 := 236) (x := 0) (bl := 0) (bh := 2) (nx := 5) (r1 := 11) (r2 := 0) (r3 := 0) rfl (by decide) rfl ⟨rfl, rfl⟩ rfl rfl g rfl (by omega) (fun h1 g1 w1 u1 => ?_)
  have F2 := F0.then rfl u1
  refine wi_aload_n (i := 0) (x := 236) (nx := 6) (r1 := 0) (r2 := 0) (r3 := 0) rfl rfl ?_
  refine wr_gr (k0 := 236) (x := 238) (nx := 9) (r1 := 11) (r2 := 13) (r3 := 0) rfl rfl (by decide) rfl ⟨rfl, rfl⟩ rfl ?_
  refine wi_bipush (n := 106) (nx := 11) (r1 := 0) (r2 := 0) (r3 := 0) rfl (by decide) ?_
  have b3 := gi_b (lo := 0) (hi := 12) g 238 106 rfl
  refine wr_ia (k0 := 238) (a := 106) (f := 106) (x := h 238 106) (nx := 12) (r1 := 0) (r2 := 0) (r3 := 0) rfl (by decide) rfl (by omega) (by omega) (by decide) (u1 238 106 rfl) ?_
  refine wi_ireturn (nx := 13) (r1 := 0) (r2 := 0) (r3 := 0) rfl rfl ?_
  exact k h1 (h 238 106) g1 F2 (by omega)
-- method 273: Model.purges()I
set_option maxRecDepth 100000 in
set_option maxHeartbeats 100000000 in
theorem ct_273_236 {L : Nat} {xs : Nat → Int32} {d b c : Nat} {h : hp} {cr : Nat → Nat → Option Nat} {Q : hp_Q} (hcr : CR cr)  (g : GI h)    (k : ∀ (h2 : hp) (z0 : Int) , GI h2 → FR [(236, 236, some (0, 0))] h h2 → (-2147483648 ≤ z0 ∧ z0 ≤ 2147483647) → Q (.inl (some (vi z0))) (hp_w h2 cr) b c) : wp (md_xa (L, xs)) (d + 1) 273 (0, [(0, .ref 236)], [], hp_w h cr, b, c) Q := by
  have F0 : FR [(236, 236, some (0, 0))] h h := FR.refl
  refine wi_aload_n (i := 0) (x := 236) (nx := 1) (r1 := 0) (r2 := 0) (r3 := 0) rfl rfl ?_
  refine wi_bipush (n := 71) (nx := 3) (r1 := 0) (r2 := 0) (r3 := 0) rfl (by decide) ?_
  refine wr_V (k0 := 236) (rest := []) (as := [.ref 236, vi 71]) (nx := 6) (r1 := 269) (r2 := 1) (r3 := 11) rfl rfl rfl (of_decide_eq_true rfl) rfl rfl (by decide) rfl rfl (of_decide_eq_true rfl) (of_decide_eq_true rfl) ?_
  refine wi_aload_n (i := 0) (x := 236) (nx := 1) (r1 := 0) (r2 := 0) (r3 := 0) rfl rfl ?_
  refine wi_iconst (n := 0) (nx := 2) (r1 := 0) (r2 := 0) (r3 := 0) rfl ?_
  refine wr_pf0 (k0 := 236) (x := 0) (bl := 0) (bh := 2) (nx := 5) (r1 := 11) (r2 := 0) (r3 := 0) rfl (by decide) rfl ⟨rfl, rfl⟩ rfl rfl g rfl (by omega) (fun h1 g1 w1 u1 => ?_)
  have F2 := F0.then rfl u1
  refine wi_aload_n (i := 0) (x := 236) (nx := 6) (r1 := 0) (r2 := 0) (r3 := 0) rfl rfl ?_
  refine wr_gr (k0 := 236) (x := 238) (nx := 9) (r1 := 11) (r2 := 13) (r3 := 0) rfl rfl (by decide) rfl ⟨rfl, rfl⟩ rfl ?_
  refine wi_iload_n (i := 1) (e := 71) (nx := 10) (r1 := 0) (r2 := 0) (r3 := 0) rfl rfl ?_
  have b3 := gi_b (lo := -2147483648) (hi := 2147483647) g 238 71 rfl
  refine wr_ia (k0 := 238) (a := 71) (f := 71) (x := h 238 71) (nx := 11) (r1 := 0) (r2 := 0) (r3 := 0) rfl (by decide) rfl (by omega) (by omega) (by decide) (u1 238 71 rfl) ?_
  refine wi_ireturn (nx := 12) (r1 := 0) (r2 := 0) (r3 := 0) rfl rfl ?_
  refine wk_i ?_
  refine wi_ireturn (nx := 7) (r1 := 0) (r2 := 0) (r3 := 0) rfl rfl ?_
  exact k h1 (h 238 71) g1 F2 (by omega)
-- method 215: Model.goOn()V
set_option maxRecDepth 100000 in
set_option maxHeartbeats 100000000 in
theorem ct_215_p146_236_L2_2 {L : Nat} {xs : Nat → Int32} {d b c : Nat} {h : hp} {cr : Nat → Nat → Option Nat} {Q : hp_Q} (hcr : CR cr)  (g : GI h)   (pp0 : h 236 4 + 2 ≤ h 236 3) (pp1 : h 236 7 ≤ 99) (k : ∀ (h2 : hp) , GI h2 → FR [(236, 236, some (4, 4)), (236, 236, some (6, 6)), (236, 236, some (7, 7))] h h2 → (h 236 4 ≤ h2 236 4) → (h2 236 4 ≤ h 236 3) → (h2 236 6 = 0 ∨ h 236 4 + 1 ≤ h2 236 4) → Q (.inl none) (hp_w h2 cr) b c) : wp (md_xa (L, xs)) (d + 1) 215 (146, [(0, .ref 236), (2, vi 2)], [], hp_w h cr, b, c) Q := by
  have F0 : FR [(236, 236, some (4, 4)), (236, 236, some (6, 6)), (236, 236, some (7, 7))] h h := FR.refl
  have b1 := gi_b (lo := 0) (hi := 800) g 236 4 rfl
  have b2 := gi_b (lo := 0) (hi := 800) g 236 3 rfl
  have b3 := gi_b (lo := 0) (hi := 999) g 236 7 rfl
  refine wi_aload_n (i := 0) (x := 236) (nx := 147) (r1 := 0) (r2 := 0) (r3 := 0) rfl rfl ?_
  refine wi_iload_n (i := 2) (e := 2) (nx := 148) (r1 := 0) (r2 := 0) (r3 := 0) rfl rfl ?_
  refine wr_V (k0 := 236) (rest := []) (as := [.ref 236, vi 2]) (nx := 151) (r1 := 216) (r2 := 1) (r3 := 11) rfl rfl rfl (of_decide_eq_true rfl) rfl rfl (by decide) rfl rfl (of_decide_eq_true rfl) (of_decide_eq_true rfl) ?_
  refine wi_aload_n (i := 0) (x := 236) (nx := 1) (r1 := 0) (r2 := 0) (r3 := 0) rfl rfl ?_
  refine wr_gi0 (k0 := 236) (x := h 236 4) (nx := 4) (r1 := 11) (r2 := 4) (r3 := 0) rfl rfl (by decide) rfl ⟨rfl, rfl⟩ rfl rfl ?_
  refine wi_iload_n (i := 1) (e := 2) (nx := 5) (r1 := 0) (r2 := 0) (r3 := 0) rfl rfl ?_
  refine wr_add (nx := 6) (r1 := 0) (r2 := 0) (r3 := 0) rfl (fun e4 (fe4 : e4 = (h 236 4) + 2) => ?_)
  refine wi_aload_n (i := 0) (x := 236) (nx := 7) (r1 := 0) (r2 := 0) (r3 := 0) rfl rfl ?_
  refine wr_gi0 (k0 := 236) (x := h 236 3) (nx := 10) (r1 := 11) (r2 := 3) (r3 := 0) rfl rfl (by decide) rfl ⟨rfl, rfl⟩ rfl rfl ?_
  refine wi_icmp (cd := .ge) (nx := 13) (r1 := 27) (r2 := 0) (r3 := 0) rfl (by omega) (by omega) (fun (q5 : (h 236 3) ≤ e4) => ?_) (fun (q5 : ¬ ((h 236 3) ≤ e4)) => ?_)
  ·
    refine wi_iconst (n := (-1)) (nx := 28) (r1 := 0) (r2 := 0) (r3 := 0) rfl ?_
    refine wi_ireturn (nx := 29) (r1 := 0) (r2 := 0) (r3 := 0) rfl rfl ?_
    refine wk_i ?_
    refine wi_S (rest := []) (as := [vi (-1)]) (nx := 154) (r1 := 218) (r2 := 17) (r3 := 0) rfl rfl rfl (of_decide_eq_true rfl) rfl rfl (of_decide_eq_true rfl) (of_decide_eq_true rfl) ?_
    refine wi_iload_n (i := 0) (e := -1) (nx := 1) (r1 := 0) (r2 := 0) (r3 := 0) rfl rfl ?_
    refine wi_bipush (n := 48) (nx := 3) (r1 := 0) (r2 := 0) (r3 := 0) rfl (by decide) ?_
    refine wi_icmp (cd := .lt) (nx := 6) (r1 := 16) (r2 := 0) (r3 := 0) rfl (by omega) (by omega) (fun (q6 : (-1) < 48) => ?_) (fun (q6 : ¬ ((-1) < 48)) => by exfalso; omega)
    refine wi_iconst (n := 0) (nx := 17) (r1 := 0) (r2 := 0) (r3 := 0) rfl ?_
    refine wi_zreturn (nx := 18) (r1 := 0) (r2 := 0) (r3 := 0) rfl rfl (by omega) ?_
    refine wk_i ?_
    refine wi_if (cd := .eq) (nx := 157) (r1 := 188) (r2 := 0) (r3 := 0) rfl (by omega) (fun (q7 : 0 = 0) => ?_) (fun (q7 : ¬ (0 = 0)) => by exfalso; omega)
    refine wi_aload_n (i := 0) (x := 236) (nx := 189) (r1 := 0) (r2 := 0) (r3 := 0) rfl rfl ?_
    refine wi_iload_n (i := 2) (e := 2) (nx := 190) (r1 := 0) (r2 := 0) (r3 := 0) rfl rfl ?_
    refine wi_iconst (n := 3) (nx := 191) (r1 := 0) (r2 := 0) (r3 := 0) rfl ?_
    refine wi_icmp (cd := .le) (nx := 194) (r1 := 198) (r2 := 0) (r3 := 0) rfl (by omega) (by omega) (fun (q8 : 2 ≤ 3) => ?_) (fun (q8 : ¬ (2 ≤ 3)) => by exfalso; omega)
    refine wi_iconst (n := 2) (nx := 199) (r1 := 0) (r2 := 0) (r3 := 0) rfl ?_
    refine wr_pf0 (k0 := 236) (x := 2) (bl := 0) (bh := 4) (nx := 202) (r1 := 11) (r2 := 6) (r3 := 0) rfl (by decide) rfl ⟨rfl, rfl⟩ rfl rfl g rfl (by omega) (fun h9 g9 w9 u9 => ?_)
    have F10 := F0.then rfl u9
    refine wi_goto (nx := 205) (r1 := 239) (r2 := 0) (r3 := 0) rfl ?_
    refine wi_aload_n (i := 0) (x := 236) (nx := 240) (r1 := 0) (r2 := 0) (r3 := 0) rfl rfl ?_
    refine wi_dup (nx := 241) (r1 := 0) (r2 := 0) (r3 := 0) rfl rfl ?_
    refine wr_gi0 (k0 := 236) (x := h 236 4) (nx := 244) (r1 := 11) (r2 := 4) (r3 := 0) rfl rfl (by decide) rfl ⟨rfl, rfl⟩ rfl (u9 236 4 rfl) ?_
    refine wi_iload_n (i := 2) (e := 2) (nx := 245) (r1 := 0) (r2 := 0) (r3 := 0) rfl rfl ?_
    refine wr_add (nx := 246) (r1 := 0) (r2 := 0) (r3 := 0) rfl (fun e11 (fe11 : e11 = (h 236 4) + 2) => ?_)
    refine wr_pf0 (k0 := 236) (x := e11) (bl := 0) (bh := 800) (nx := 249) (r1 := 11) (r2 := 4) (r3 := 0) rfl (by decide) rfl ⟨rfl, rfl⟩ rfl rfl g9 rfl (by omega) (fun h12 g12 w12 u12 => ?_)
    have F13 := F10.then rfl u12
    refine wi_return (nx := 250) (r1 := 0) (r2 := 0) (r3 := 0) rfl rfl ?_
    have e14 : h12 236 4 = e11 := w12
    have e15 : h12 236 6 = 2 := ((u12 236 6 rfl).trans w9)
    exact k h12 g12 F13 (show (h 236 4) ≤ (h12 236 4) by omega) (show (h12 236 4) ≤ (h 236 3) by omega) (show (h12 236 6) = 0 ∨ (h 236 4) + 1 ≤ (h12 236 4) by omega)
  ·
    refine wi_aload_n (i := 0) (x := 236) (nx := 14) (r1 := 0) (r2 := 0) (r3 := 0) rfl rfl ?_
    refine wr_gr (k0 := 236) (x := 237) (nx := 17) (r1 := 11) (r2 := 1) (r3 := 0) rfl rfl (by decide) rfl ⟨rfl, rfl⟩ rfl ?_
    refine wi_aload_n (i := 0) (x := 236) (nx := 18) (r1 := 0) (r2 := 0) (r3 := 0) rfl rfl ?_
    refine wr_gi0 (k0 := 236) (x := h 236 4) (nx := 21) (r1 := 11) (r2 := 4) (r3 := 0) rfl rfl (by decide) rfl ⟨rfl, rfl⟩ rfl rfl ?_
    refine wi_iload_n (i := 1) (e := 2) (nx := 22) (r1 := 0) (r2 := 0) (r3 := 0) rfl rfl ?_
    refine wr_add (nx := 23) (r1 := 0) (r2 := 0) (r3 := 0) rfl (fun e6 (fe6 : e6 = (h 236 4) + 2) => ?_)
    obtain ⟨i7, ei7⟩ : ∃ q : Nat, e6 = (q : Int) := ⟨(e6).toNat, by omega⟩
    have b8 := gi_b (lo := 0) (hi := 255) g 237 i7 rfl
    refine wr_ia (k0 := 237) (a := e6) (f := i7) (x := h 237 i7) (nx := 24) (r1 := 0) (r2 := 0) (r3 := 0) rfl (by decide) rfl (by omega) (by omega) (by decide) rfl ?_
    refine wi_goto (nx := 27) (r1 := 28) (r2 := 0) (r3 := 0) rfl ?_
    refine wi_ireturn (nx := 29) (r1 := 0) (r2 := 0) (r3 := 0) rfl rfl ?_
    refine wk_i ?_
    refine wi_S (rest := []) (as := [vi (h 237 i7)]) (nx := 154) (r1 := 218) (r2 := 17) (r3 := 0) rfl rfl rfl (of_decide_eq_true rfl) rfl rfl (of_decide_eq_true rfl) (of_decide_eq_true rfl) ?_
    refine wi_iload_n (i := 0) (e := h 237 i7) (nx := 1) (r1 := 0) (r2 := 0) (r3 := 0) rfl rfl ?_
    refine wi_bipush (n := 48) (nx := 3) (r1 := 0) (r2 := 0) (r3 := 0) rfl (by decide) ?_
    refine wi_icmp (cd := .lt) (nx := 6) (r1 := 16) (r2 := 0) (r3 := 0) rfl (by omega) (by omega) (fun (q9 : (h 237 i7) < 48) => ?_) (fun (q9 : ¬ ((h 237 i7) < 48)) => ?_)
    ·
      refine wi_iconst (n := 0) (nx := 17) (r1 := 0) (r2 := 0) (r3 := 0) rfl ?_
      refine wi_zreturn (nx := 18) (r1 := 0) (r2 := 0) (r3 := 0) rfl rfl (by omega) ?_
      refine wk_i ?_
      refine wi_if (cd := .eq) (nx := 157) (r1 := 188) (r2 := 0) (r3 := 0) rfl (by omega) (fun (q10 : 0 = 0) => ?_) (fun (q10 : ¬ (0 = 0)) => by exfalso; omega)
      refine wi_aload_n (i := 0) (x := 236) (nx := 189) (r1 := 0) (r2 := 0) (r3 := 0) rfl rfl ?_
      refine wi_iload_n (i := 2) (e := 2) (nx := 190) (r1 := 0) (r2 := 0) (r3 := 0) rfl rfl ?_
      refine wi_iconst (n := 3) (nx := 191) (r1 := 0) (r2 := 0) (r3 := 0) rfl ?_
      refine wi_icmp (cd := .le) (nx := 194) (r1 := 198) (r2 := 0) (r3 := 0) rfl (by omega) (by omega) (fun (q11 : 2 ≤ 3) => ?_) (fun (q11 : ¬ (2 ≤ 3)) => by exfalso; omega)
      refine wi_iconst (n := 2) (nx := 199) (r1 := 0) (r2 := 0) (r3 := 0) rfl ?_
      refine wr_pf0 (k0 := 236) (x := 2) (bl := 0) (bh := 4) (nx := 202) (r1 := 11) (r2 := 6) (r3 := 0) rfl (by decide) rfl ⟨rfl, rfl⟩ rfl rfl g rfl (by omega) (fun h12 g12 w12 u12 => ?_)
      have F13 := F0.then rfl u12
      refine wi_goto (nx := 205) (r1 := 239) (r2 := 0) (r3 := 0) rfl ?_
      refine wi_aload_n (i := 0) (x := 236) (nx := 240) (r1 := 0) (r2 := 0) (r3 := 0) rfl rfl ?_
      refine wi_dup (nx := 241) (r1 := 0) (r2 := 0) (r3 := 0) rfl rfl ?_
      refine wr_gi0 (k0 := 236) (x := h 236 4) (nx := 244) (r1 := 11) (r2 := 4) (r3 := 0) rfl rfl (by decide) rfl ⟨rfl, rfl⟩ rfl (u12 236 4 rfl) ?_
      refine wi_iload_n (i := 2) (e := 2) (nx := 245) (r1 := 0) (r2 := 0) (r3 := 0) rfl rfl ?_
      refine wr_add (nx := 246) (r1 := 0) (r2 := 0) (r3 := 0) rfl (fun e14 (fe14 : e14 = (h 236 4) + 2) => ?_)
      refine wr_pf0 (k0 := 236) (x := e14) (bl := 0) (bh := 800) (nx := 249) (r1 := 11) (r2 := 4) (r3 := 0) rfl (by decide) rfl ⟨rfl, rfl⟩ rfl rfl g12 rfl (by omega) (fun h15 g15 w15 u15 => ?_)
      have F16 := F13.then rfl u15
      refine wi_return (nx := 250) (r1 := 0) (r2 := 0) (r3 := 0) rfl rfl ?_
      have e17 : h15 236 4 = e14 := w15
      have e18 : h15 236 6 = 2 := ((u15 236 6 rfl).trans w12)
      exact k h15 g15 F16 (show (h 236 4) ≤ (h15 236 4) by omega) (show (h15 236 4) ≤ (h 236 3) by omega) (show (h15 236 6) = 0 ∨ (h 236 4) + 1 ≤ (h15 236 4) by omega)
    ·
      refine wi_iload_n (i := 0) (e := h 237 i7) (nx := 7) (r1 := 0) (r2 := 0) (r3 := 0) rfl rfl ?_
      refine wi_bipush (n := 57) (nx := 9) (r1 := 0) (r2 := 0) (r3 := 0) rfl (by decide) ?_
      refine wi_icmp (cd := .gt) (nx := 12) (r1 := 16) (r2 := 0) (r3 := 0) rfl (by omega) (by omega) (fun (q10 : 57 < (h 237 i7)) => ?_) (fun (q10 : ¬ (57 < (h 237 i7))) => ?_)
      ·
        refine wi_iconst (n := 0) (nx := 17) (r1 := 0) (r2 := 0) (r3 := 0) rfl ?_
        refine wi_zreturn (nx := 18) (r1 := 0) (r2 := 0) (r3 := 0) rfl rfl (by omega) ?_
        refine wk_i ?_
        refine wi_if (cd := .eq) (nx := 157) (r1 := 188) (r2 := 0) (r3 := 0) rfl (by omega) (fun (q11 : 0 = 0) => ?_) (fun (q11 : ¬ (0 = 0)) => by exfalso; omega)
        refine wi_aload_n (i := 0) (x := 236) (nx := 189) (r1 := 0) (r2 := 0) (r3 := 0) rfl rfl ?_
        refine wi_iload_n (i := 2) (e := 2) (nx := 190) (r1 := 0) (r2 := 0) (r3 := 0) rfl rfl ?_
        refine wi_iconst (n := 3) (nx := 191) (r1 := 0) (r2 := 0) (r3 := 0) rfl ?_
        refine wi_icmp (cd := .le) (nx := 194) (r1 := 198) (r2 := 0) (r3 := 0) rfl (by omega) (by omega) (fun (q12 : 2 ≤ 3) => ?_) (fun (q12 : ¬ (2 ≤ 3)) => by exfalso; omega)
        refine wi_iconst (n := 2) (nx := 199) (r1 := 0) (r2 := 0) (r3 := 0) rfl ?_
        refine wr_pf0 (k0 := 236) (x := 2) (bl := 0) (bh := 4) (nx := 202) (r1 := 11) (r2 := 6) (r3 := 0) rfl (by decide) rfl ⟨rfl, rfl⟩ rfl rfl g rfl (by omega) (fun h13 g13 w13 u13 => ?_)
        have F14 := F0.then rfl u13
        refine wi_goto (nx := 205) (r1 := 239) (r2 := 0) (r3 := 0) rfl ?_
        refine wi_aload_n (i := 0) (x := 236) (nx := 240) (r1 := 0) (r2 := 0) (r3 := 0) rfl rfl ?_
        refine wi_dup (nx := 241) (r1 := 0) (r2 := 0) (r3 := 0) rfl rfl ?_
        refine wr_gi0 (k0 := 236) (x := h 236 4) (nx := 244) (r1 := 11) (r2 := 4) (r3 := 0) rfl rfl (by decide) rfl ⟨rfl, rfl⟩ rfl (u13 236 4 rfl) ?_
        refine wi_iload_n (i := 2) (e := 2) (nx := 245) (r1 := 0) (r2 := 0) (r3 := 0) rfl rfl ?_
        refine wr_add (nx := 246) (r1 := 0) (r2 := 0) (r3 := 0) rfl (fun e15 (fe15 : e15 = (h 236 4) + 2) => ?_)
        refine wr_pf0 (k0 := 236) (x := e15) (bl := 0) (bh := 800) (nx := 249) (r1 := 11) (r2 := 4) (r3 := 0) rfl (by decide) rfl ⟨rfl, rfl⟩ rfl rfl g13 rfl (by omega) (fun h16 g16 w16 u16 => ?_)
        have F17 := F14.then rfl u16
        refine wi_return (nx := 250) (r1 := 0) (r2 := 0) (r3 := 0) rfl rfl ?_
        have e18 : h16 236 4 = e15 := w16
        have e19 : h16 236 6 = 2 := ((u16 236 6 rfl).trans w13)
        exact k h16 g16 F17 (show (h 236 4) ≤ (h16 236 4) by omega) (show (h16 236 4) ≤ (h 236 3) by omega) (show (h16 236 6) = 0 ∨ (h 236 4) + 1 ≤ (h16 236 4) by omega)
      ·
        refine wi_iconst (n := 1) (nx := 13) (r1 := 0) (r2 := 0) (r3 := 0) rfl ?_
        refine wi_goto (nx := 16) (r1 := 17) (r2 := 0) (r3 := 0) rfl ?_
        refine wi_zreturn (nx := 18) (r1 := 0) (r2 := 0) (r3 := 0) rfl rfl (by omega) ?_
        refine wk_i ?_
        refine wi_if (cd := .eq) (nx := 157) (r1 := 188) (r2 := 0) (r3 := 0) rfl (by omega) (fun (q11 : 1 = 0) => by exfalso; omega) (fun (q11 : ¬ (1 = 0)) => ?_)
        refine wi_iload_n (i := 2) (e := 2) (nx := 158) (r1 := 0) (r2 := 0) (r3 := 0) rfl rfl ?_
        refine wi_iconst (n := 3) (nx := 159) (r1 := 0) (r2 := 0) (r3 := 0) rfl ?_
        refine wi_icmp (cd := .ge) (nx := 162) (r1 := 182) (r2 := 0) (r3 := 0) rfl (by omega) (by omega) (fun (q12 : 3 ≤ 2) => by exfalso; omega) (fun (q12 : ¬ (3 ≤ 2)) => ?_)
        refine wi_aload_n (i := 0) (x := 236) (nx := 163) (r1 := 0) (r2 := 0) (r3 := 0) rfl rfl ?_
        refine wi_bipush (n := 10) (nx := 165) (r1 := 0) (r2 := 0) (r3 := 0) rfl (by decide) ?_
        refine wi_aload_n (i := 0) (x := 236) (nx := 166) (r1 := 0) (r2 := 0) (r3 := 0) rfl rfl ?_
        refine wr_gi0 (k0 := 236) (x := h 236 7) (nx := 169) (r1 := 11) (r2 := 7) (r3 := 0) rfl rfl (by decide) rfl ⟨rfl, rfl⟩ rfl rfl ?_
        refine wr_mul (nx := 170) (r1 := 0) (r2 := 0) (r3 := 0) rfl (fun e13 (fe13 : e13 = 10 * (h 236 7)) => ?_)
        refine wi_aload_n (i := 0) (x := 236) (nx := 171) (r1 := 0) (r2 := 0) (r3 := 0) rfl rfl ?_
        refine wi_iload_n (i := 2) (e := 2) (nx := 172) (r1 := 0) (r2 := 0) (r3 := 0) rfl rfl ?_
        refine wr_V (k0 := 236) (rest := [vi e13, .ref 236]) (as := [.ref 236, vi 2]) (nx := 175) (r1 := 216) (r2 := 1) (r3 := 11) rfl rfl rfl (of_decide_eq_true rfl) rfl rfl (by decide) rfl rfl (of_decide_eq_true rfl) (of_decide_eq_true rfl) ?_
        refine wi_aload_n (i := 0) (x := 236) (nx := 1) (r1 := 0) (r2 := 0) (r3 := 0) rfl rfl ?_
        refine wr_gi0 (k0 := 236) (x := h 236 4) (nx := 4) (r1 := 11) (r2 := 4) (r3 := 0) rfl rfl (by decide) rfl ⟨rfl, rfl⟩ rfl rfl ?_
        refine wi_iload_n (i := 1) (e := 2) (nx := 5) (r1 := 0) (r2 := 0) (r3 := 0) rfl rfl ?_
        refine wr_add (nx := 6) (r1 := 0) (r2 := 0) (r3 := 0) rfl (fun e14 (fe14 : e14 = (h 236 4) + 2) => ?_)
        refine wi_aload_n (i := 0) (x := 236) (nx := 7) (r1 := 0) (r2 := 0) (r3 := 0) rfl rfl ?_
        refine wr_gi0 (k0 := 236) (x := h 236 3) (nx := 10) (r1 := 11) (r2 := 3) (r3 := 0) rfl rfl (by decide) rfl ⟨rfl, rfl⟩ rfl rfl ?_
        refine wi_icmp (cd := .ge) (nx := 13) (r1 := 27) (r2 := 0) (r3 := 0) rfl (by omega) (by omega) (fun (q15 : (h 236 3) ≤ e14) => by exfalso; omega) (fun (q15 : ¬ ((h 236 3) ≤ e14)) => ?_)
        refine wi_aload_n (i := 0) (x := 236) (nx := 14) (r1 := 0) (r2 := 0) (r3 := 0) rfl rfl ?_
        refine wr_gr (k0 := 236) (x := 237) (nx := 17) (r1 := 11) (r2 := 1) (r3 := 0) rfl rfl (by decide) rfl ⟨rfl, rfl⟩ rfl ?_
        refine wi_aload_n (i := 0) (x := 236) (nx := 18) (r1 := 0) (r2 := 0) (r3 := 0) rfl rfl ?_
        refine wr_gi0 (k0 := 236) (x := h 236 4) (nx := 21) (r1 := 11) (r2 := 4) (r3 := 0) rfl rfl (by decide) rfl ⟨rfl, rfl⟩ rfl rfl ?_
        refine wi_iload_n (i := 1) (e := 2) (nx := 22) (r1 := 0) (r2 := 0) (r3 := 0) rfl rfl ?_
        refine wr_add (nx := 23) (r1 := 0) (r2 := 0) (r3 := 0) rfl (fun e16 (fe16 : e16 = (h 236 4) + 2) => ?_)
        refine wr_ia (k0 := 237) (a := e16) (f := i7) (x := h 237 i7) (nx := 24) (r1 := 0) (r2 := 0) (r3 := 0) rfl (by decide) rfl (by omega) (by omega) (by decide) rfl ?_
        refine wi_goto (nx := 27) (r1 := 28) (r2 := 0) (r3 := 0) rfl ?_
        refine wi_ireturn (nx := 29) (r1 := 0) (r2 := 0) (r3 := 0) rfl rfl ?_
        refine wk_i ?_
        refine wr_add (nx := 176) (r1 := 0) (r2 := 0) (r3 := 0) rfl (fun e17 (fe17 : e17 = e13 + (h 237 i7)) => ?_)
        refine wi_bipush (n := 48) (nx := 178) (r1 := 0) (r2 := 0) (r3 := 0) rfl (by decide) ?_
        refine wr_sub (nx := 179) (r1 := 0) (r2 := 0) (r3 := 0) rfl (fun e18 (fe18 : e18 = e17 - 48) => ?_)
        refine wr_pf0 (k0 := 236) (x := e18) (bl := 0) (bh := 999) (nx := 182) (r1 := 11) (r2 := 7) (r3 := 0) rfl (by decide) rfl ⟨rfl, rfl⟩ rfl rfl g rfl (by omega) (fun h19 g19 w19 u19 => ?_)
        have F20 := F0.then rfl u19
        refine wr_iincL (i := 2) (n := 1) (v := 2) (3) ([(2, vi 3), (0, .ref 236)]) (nx := 185) (r1 := 0) (r2 := 0) (r3 := 0) rfl rfl (by decide) rfl ?_
        refine wi_goto (nx := 188) (r1 := 146) (r2 := 0) (r3 := 0) rfl ?_
        have e23 : h19 236 4 = h 236 4 := (u19 236 4 rfl)
        have e24 : h19 236 3 = h 236 3 := (u19 236 3 rfl)
        refine wp.lo (lo := [(0, .ref 236), (2, vi 3)]) ⟨rfl, rfl, trivial⟩ rfl ?_
        refine wl_1 (fun x21 h22 => h19 = h22 ∧ ((3 ≤ x21 ∧ x21 ≤ 800) ∧ (x21 + (h19 236 4) ≤ (h19 236 3)))) (fun x21 h22 => ((h19 236 3) - (h19 236 4) - x21).toNat) (fun x21 h22 => (146, [(0, .ref 236), (2, vi x21)], [], hp_w h22 cr, b, c)) ?_ 3 h19 ⟨rfl, (show (3 ≤ 3 ∧ 3 ≤ 800) ∧ (3 + (h19 236 4) ≤ (h19 236 3)) by omega)⟩
        intro x21 h22 ⟨e22, f22⟩ I22
        subst e22
        refine wi_aload_n (i := 0) (x := 236) (nx := 147) (r1 := 0) (r2 := 0) (r3 := 0) rfl rfl ?_
        refine wi_iload_n (i := 2) (e := x21) (nx := 148) (r1 := 0) (r2 := 0) (r3 := 0) rfl rfl ?_
        refine wr_V (k0 := 236) (rest := []) (as := [.ref 236, vi x21]) (nx := 151) (r1 := 216) (r2 := 1) (r3 := 11) rfl rfl rfl (of_decide_eq_true rfl) rfl rfl (by decide) rfl rfl (of_decide_eq_true rfl) (of_decide_eq_true rfl) ?_
        refine wi_aload_n (i := 0) (x := 236) (nx := 1) (r1 := 0) (r2 := 0) (r3 := 0) rfl rfl ?_
        refine wr_gi0 (k0 := 236) (x := h 236 4) (nx := 4) (r1 := 11) (r2 := 4) (r3 := 0) rfl rfl (by decide) rfl ⟨rfl, rfl⟩ rfl (u19 236 4 rfl) ?_
        refine wi_iload_n (i := 1) (e := x21) (nx := 5) (r1 := 0) (r2 := 0) (r3 := 0) rfl rfl ?_
        refine wr_add (nx := 6) (r1 := 0) (r2 := 0) (r3 := 0) rfl (fun e26 (fe26 : e26 = (h 236 4) + x21) => ?_)
        refine wi_aload_n (i := 0) (x := 236) (nx := 7) (r1 := 0) (r2 := 0) (r3 := 0) rfl rfl ?_
        refine wr_gi0 (k0 := 236) (x := h 236 3) (nx := 10) (r1 := 11) (r2 := 3) (r3 := 0) rfl rfl (by decide) rfl ⟨rfl, rfl⟩ rfl (u19 236 3 rfl) ?_
        refine wi_icmp (cd := .ge) (nx := 13) (r1 := 27) (r2 := 0) (r3 := 0) rfl (by omega) (by omega) (fun (q27 : (h 236 3) ≤ e26) => ?_) (fun (q27 : ¬ ((h 236 3) ≤ e26)) => ?_)
        ·
          refine wi_iconst (n := (-1)) (nx := 28) (r1 := 0) (r2 := 0) (r3 := 0) rfl ?_
          refine wi_ireturn (nx := 29) (r1 := 0) (r2 := 0) (r3 := 0) rfl rfl ?_
          refine wk_i ?_
          refine wi_S (rest := []) (as := [vi (-1)]) (nx := 154) (r1 := 218) (r2 := 17) (r3 := 0) rfl rfl rfl (of_decide_eq_true rfl) rfl rfl (of_decide_eq_true rfl) (of_decide_eq_true rfl) ?_
          refine wi_iload_n (i := 0) (e := -1) (nx := 1) (r1 := 0) (r2 := 0) (r3 := 0) rfl rfl ?_
          refine wi_bipush (n := 48) (nx := 3) (r1 := 0) (r2 := 0) (r3 := 0) rfl (by decide) ?_
          refine wi_icmp (cd := .lt) (nx := 6) (r1 := 16) (r2 := 0) (r3 := 0) rfl (by omega) (by omega) (fun (q28 : (-1) < 48) => ?_) (fun (q28 : ¬ ((-1) < 48)) => by exfalso; omega)
          refine wi_iconst (n := 0) (nx := 17) (r1 := 0) (r2 := 0) (r3 := 0) rfl ?_
          refine wi_zreturn (nx := 18) (r1 := 0) (r2 := 0) (r3 := 0) rfl rfl (by omega) ?_
          refine wk_i ?_
          refine wi_if (cd := .eq) (nx := 157) (r1 := 188) (r2 := 0) (r3 := 0) rfl (by omega) (fun (q29 : 0 = 0) => ?_) (fun (q29 : ¬ (0 = 0)) => by exfalso; omega)
          refine wi_aload_n (i := 0) (x := 236) (nx := 189) (r1 := 0) (r2 := 0) (r3 := 0) rfl rfl ?_
          refine wi_iload_n (i := 2) (e := x21) (nx := 190) (r1 := 0) (r2 := 0) (r3 := 0) rfl rfl ?_
          refine wi_iconst (n := 3) (nx := 191) (r1 := 0) (r2 := 0) (r3 := 0) rfl ?_
          refine wi_icmp (cd := .le) (nx := 194) (r1 := 198) (r2 := 0) (r3 := 0) rfl (by omega) (by omega) (fun (q30 : x21 ≤ 3) => ?_) (fun (q30 : ¬ (x21 ≤ 3)) => ?_)
          ·
            refine wi_iconst (n := 2) (nx := 199) (r1 := 0) (r2 := 0) (r3 := 0) rfl ?_
            refine wr_pf0 (k0 := 236) (x := 2) (bl := 0) (bh := 4) (nx := 202) (r1 := 11) (r2 := 6) (r3 := 0) rfl (by decide) rfl ⟨rfl, rfl⟩ rfl rfl g19 rfl (by omega) (fun h31 g31 w31 u31 => ?_)
            have F32 := F20.then rfl u31
            refine wi_goto (nx := 205) (r1 := 239) (r2 := 0) (r3 := 0) rfl ?_
            refine wi_aload_n (i := 0) (x := 236) (nx := 240) (r1 := 0) (r2 := 0) (r3 := 0) rfl rfl ?_
            refine wi_dup (nx := 241) (r1 := 0) (r2 := 0) (r3 := 0) rfl rfl ?_
            refine wr_gi0 (k0 := 236) (x := h 236 4) (nx := 244) (r1 := 11) (r2 := 4) (r3 := 0) rfl rfl (by decide) rfl ⟨rfl, rfl⟩ rfl ((u31 236 4 rfl).trans (u19 236 4 rfl)) ?_
            refine wi_iload_n (i := 2) (e := x21) (nx := 245) (r1 := 0) (r2 := 0) (r3 := 0) rfl rfl ?_
            refine wr_add (nx := 246) (r1 := 0) (r2 := 0) (r3 := 0) rfl (fun e33 (fe33 : e33 = (h 236 4) + x21) => ?_)
            refine wr_pf0 (k0 := 236) (x := e33) (bl := 0) (bh := 800) (nx := 249) (r1 := 11) (r2 := 4) (r3 := 0) rfl (by decide) rfl ⟨rfl, rfl⟩ rfl rfl g31 rfl (by omega) (fun h34 g34 w34 u34 => ?_)
            have F35 := F32.then rfl u34
            refine wi_return (nx := 250) (r1 := 0) (r2 := 0) (r3 := 0) rfl rfl ?_
            have e36 : h34 236 4 = e33 := w34
            have e37 : h34 236 6 = 2 := ((u34 236 6 rfl).trans w31)
            exact k h34 g34 F35 (show (h 236 4) ≤ (h34 236 4) by omega) (show (h34 236 4) ≤ (h 236 3) by omega) (show (h34 236 6) = 0 ∨ (h 236 4) + 1 ≤ (h34 236 4) by omega)
          ·
            refine wi_iconst (n := 4) (nx := 195) (r1 := 0) (r2 := 0) (r3 := 0) rfl ?_
            refine wi_goto (nx := 198) (r1 := 199) (r2 := 0) (r3 := 0) rfl ?_
            refine wr_pf0 (k0 := 236) (x := 4) (bl := 0) (bh := 4) (nx := 202) (r1 := 11) (r2 := 6) (r3 := 0) rfl (by decide) rfl ⟨rfl, rfl⟩ rfl rfl g19 rfl (by omega) (fun h31 g31 w31 u31 => ?_)
            have F32 := F20.then rfl u31
            refine wi_goto (nx := 205) (r1 := 239) (r2 := 0) (r3 := 0) rfl ?_
            refine wi_aload_n (i := 0) (x := 236) (nx := 240) (r1 := 0) (r2 := 0) (r3 := 0) rfl rfl ?_
            refine wi_dup (nx := 241) (r1 := 0) (r2 := 0) (r3 := 0) rfl rfl ?_
            refine wr_gi0 (k0 := 236) (x := h 236 4) (nx := 244) (r1 := 11) (r2 := 4) (r3 := 0) rfl rfl (by decide) rfl ⟨rfl, rfl⟩ rfl ((u31 236 4 rfl).trans (u19 236 4 rfl)) ?_
            refine wi_iload_n (i := 2) (e := x21) (nx := 245) (r1 := 0) (r2 := 0) (r3 := 0) rfl rfl ?_
            refine wr_add (nx := 246) (r1 := 0) (r2 := 0) (r3 := 0) rfl (fun e33 (fe33 : e33 = (h 236 4) + x21) => ?_)
            refine wr_pf0 (k0 := 236) (x := e33) (bl := 0) (bh := 800) (nx := 249) (r1 := 11) (r2 := 4) (r3 := 0) rfl (by decide) rfl ⟨rfl, rfl⟩ rfl rfl g31 rfl (by omega) (fun h34 g34 w34 u34 => ?_)
            have F35 := F32.then rfl u34
            refine wi_return (nx := 250) (r1 := 0) (r2 := 0) (r3 := 0) rfl rfl ?_
            have e36 : h34 236 4 = e33 := w34
            have e37 : h34 236 6 = 4 := ((u34 236 6 rfl).trans w31)
            exact k h34 g34 F35 (show (h 236 4) ≤ (h34 236 4) by omega) (show (h34 236 4) ≤ (h 236 3) by omega) (show (h34 236 6) = 0 ∨ (h 236 4) + 1 ≤ (h34 236 4) by omega)
        ·
          refine wi_aload_n (i := 0) (x := 236) (nx := 14) (r1 := 0) (r2 := 0) (r3 := 0) rfl rfl ?_
          refine wr_gr (k0 := 236) (x := 237) (nx := 17) (r1 := 11) (r2 := 1) (r3 := 0) rfl rfl (by decide) rfl ⟨rfl, rfl⟩ rfl ?_
          refine wi_aload_n (i := 0) (x := 236) (nx := 18) (r1 := 0) (r2 := 0) (r3 := 0) rfl rfl ?_
          refine wr_gi0 (k0 := 236) (x := h 236 4) (nx := 21) (r1 := 11) (r2 := 4) (r3 := 0) rfl rfl (by decide) rfl ⟨rfl, rfl⟩ rfl (u19 236 4 rfl) ?_
          refine wi_iload_n (i := 1) (e := x21) (nx := 22) (r1 := 0) (r2 := 0) (r3 := 0) rfl rfl ?_
          refine wr_add (nx := 23) (r1 := 0) (r2 := 0) (r3 := 0) rfl (fun e28 (fe28 : e28 = (h 236 4) + x21) => ?_)
          obtain ⟨i29, ei29⟩ : ∃ q : Nat, e28 = (q : Int) := ⟨(e28).toNat, by omega⟩
          have b30 := gi_b (lo := 0) (hi := 255) g 237 i29 rfl
          refine wr_ia (k0 := 237) (a := e28) (f := i29) (x := h 237 i29) (nx := 24) (r1 := 0) (r2 := 0) (r3 := 0) rfl (by decide) rfl (by omega) (by omega) (by decide) (u19 237 i29 (fn_a (by omega) fn_0)) ?_
          refine wi_goto (nx := 27) (r1 := 28) (r2 := 0) (r3 := 0) rfl ?_
          refine wi_ireturn (nx := 29) (r1 := 0) (r2 := 0) (r3 := 0) rfl rfl ?_
          refine wk_i ?_
          refine wi_S (rest := []) (as := [vi (h 237 i29)]) (nx := 154) (r1 := 218) (r2 := 17) (r3 := 0) rfl rfl rfl (of_decide_eq_true rfl) rfl rfl (of_decide_eq_true rfl) (of_decide_eq_true rfl) ?_
          refine wi_iload_n (i := 0) (e := h 237 i29) (nx := 1) (r1 := 0) (r2 := 0) (r3 := 0) rfl rfl ?_
          refine wi_bipush (n := 48) (nx := 3) (r1 := 0) (r2 := 0) (r3 := 0) rfl (by decide) ?_
          refine wi_icmp (cd := .lt) (nx := 6) (r1 := 16) (r2 := 0) (r3 := 0) rfl (by omega) (by omega) (fun (q31 : (h 237 i29) < 48) => ?_) (fun (q31 : ¬ ((h 237 i29) < 48)) => ?_)
          ·
            refine wi_iconst (n := 0) (nx := 17) (r1 := 0) (r2 := 0) (r3 := 0) rfl ?_
            refine wi_zreturn (nx := 18) (r1 := 0) (r2 := 0) (r3 := 0) rfl rfl (by omega) ?_
            refine wk_i ?_
            refine wi_if (cd := .eq) (nx := 157) (r1 := 188) (r2 := 0) (r3 := 0) rfl (by omega) (fun (q32 : 0 = 0) => ?_) (fun (q32 : ¬ (0 = 0)) => by exfalso; omega)
            refine wi_aload_n (i := 0) (x := 236) (nx := 189) (r1 := 0) (r2 := 0) (r3 := 0) rfl rfl ?_
            refine wi_iload_n (i := 2) (e := x21) (nx := 190) (r1 := 0) (r2 := 0) (r3 := 0) rfl rfl ?_
            refine wi_iconst (n := 3) (nx := 191) (r1 := 0) (r2 := 0) (r3 := 0) rfl ?_
            refine wi_icmp (cd := .le) (nx := 194) (r1 := 198) (r2 := 0) (r3 := 0) rfl (by omega) (by omega) (fun (q33 : x21 ≤ 3) => ?_) (fun (q33 : ¬ (x21 ≤ 3)) => ?_)
            ·
              refine wi_iconst (n := 2) (nx := 199) (r1 := 0) (r2 := 0) (r3 := 0) rfl ?_
              refine wr_pf0 (k0 := 236) (x := 2) (bl := 0) (bh := 4) (nx := 202) (r1 := 11) (r2 := 6) (r3 := 0) rfl (by decide) rfl ⟨rfl, rfl⟩ rfl rfl g19 rfl (by omega) (fun h34 g34 w34 u34 => ?_)
              have F35 := F20.then rfl u34
              refine wi_goto (nx := 205) (r1 := 239) (r2 := 0) (r3 := 0) rfl ?_
              refine wi_aload_n (i := 0) (x := 236) (nx := 240) (r1 := 0) (r2 := 0) (r3 := 0) rfl rfl ?_
              refine wi_dup (nx := 241) (r1 := 0) (r2 := 0) (r3 := 0) rfl rfl ?_
              refine wr_gi0 (k0 := 236) (x := h 236 4) (nx := 244) (r1 := 11) (r2 := 4) (r3 := 0) rfl rfl (by decide) rfl ⟨rfl, rfl⟩ rfl ((u34 236 4 rfl).trans (u19 236 4 rfl)) ?_
              refine wi_iload_n (i := 2) (e := x21) (nx := 245) (r1 := 0) (r2 := 0) (r3 := 0) rfl rfl ?_
              refine wr_add (nx := 246) (r1 := 0) (r2 := 0) (r3 := 0) rfl (fun e36 (fe36 : e36 = (h 236 4) + x21) => ?_)
              refine wr_pf0 (k0 := 236) (x := e36) (bl := 0) (bh := 800) (nx := 249) (r1 := 11) (r2 := 4) (r3 := 0) rfl (by decide) rfl ⟨rfl, rfl⟩ rfl rfl g34 rfl (by omega) (fun h37 g37 w37 u37 => ?_)
              have F38 := F35.then rfl u37
              refine wi_return (nx := 250) (r1 := 0) (r2 := 0) (r3 := 0) rfl rfl ?_
              have e39 : h37 236 4 = e36 := w37
              have e40 : h37 236 6 = 2 := ((u37 236 6 rfl).trans w34)
              exact k h37 g37 F38 (show (h 236 4) ≤ (h37 236 4) by omega) (show (h37 236 4) ≤ (h 236 3) by omega) (show (h37 236 6) = 0 ∨ (h 236 4) + 1 ≤ (h37 236 4) by omega)
            ·
              refine wi_iconst (n := 4) (nx := 195) (r1 := 0) (r2 := 0) (r3 := 0) rfl ?_
              refine wi_goto (nx := 198) (r1 := 199) (r2 := 0) (r3 := 0) rfl ?_
              refine wr_pf0 (k0 := 236) (x := 4) (bl := 0) (bh := 4) (nx := 202) (r1 := 11) (r2 := 6) (r3 := 0) rfl (by decide) rfl ⟨rfl, rfl⟩ rfl rfl g19 rfl (by omega) (fun h34 g34 w34 u34 => ?_)
              have F35 := F20.then rfl u34
              refine wi_goto (nx := 205) (r1 := 239) (r2 := 0) (r3 := 0) rfl ?_
              refine wi_aload_n (i := 0) (x := 236) (nx := 240) (r1 := 0) (r2 := 0) (r3 := 0) rfl rfl ?_
              refine wi_dup (nx := 241) (r1 := 0) (r2 := 0) (r3 := 0) rfl rfl ?_
              refine wr_gi0 (k0 := 236) (x := h 236 4) (nx := 244) (r1 := 11) (r2 := 4) (r3 := 0) rfl rfl (by decide) rfl ⟨rfl, rfl⟩ rfl ((u34 236 4 rfl).trans (u19 236 4 rfl)) ?_
              refine wi_iload_n (i := 2) (e := x21) (nx := 245) (r1 := 0) (r2 := 0) (r3 := 0) rfl rfl ?_
              refine wr_add (nx := 246) (r1 := 0) (r2 := 0) (r3 := 0) rfl (fun e36 (fe36 : e36 = (h 236 4) + x21) => ?_)
              refine wr_pf0 (k0 := 236) (x := e36) (bl := 0) (bh := 800) (nx := 249) (r1 := 11) (r2 := 4) (r3 := 0) rfl (by decide) rfl ⟨rfl, rfl⟩ rfl rfl g34 rfl (by omega) (fun h37 g37 w37 u37 => ?_)
              have F38 := F35.then rfl u37
              refine wi_return (nx := 250) (r1 := 0) (r2 := 0) (r3 := 0) rfl rfl ?_
              have e39 : h37 236 4 = e36 := w37
              have e40 : h37 236 6 = 4 := ((u37 236 6 rfl).trans w34)
              exact k h37 g37 F38 (show (h 236 4) ≤ (h37 236 4) by omega) (show (h37 236 4) ≤ (h 236 3) by omega) (show (h37 236 6) = 0 ∨ (h 236 4) + 1 ≤ (h37 236 4) by omega)
          ·
            refine wi_iload_n (i := 0) (e := h 237 i29) (nx := 7) (r1 := 0) (r2 := 0) (r3 := 0) rfl rfl ?_
            refine wi_bipush (n := 57) (nx := 9) (r1 := 0) (r2 := 0) (r3 := 0) rfl (by decide) ?_
            refine wi_icmp (cd := .gt) (nx := 12) (r1 := 16) (r2 := 0) (r3 := 0) rfl (by omega) (by omega) (fun (q32 : 57 < (h 237 i29)) => ?_) (fun (q32 : ¬ (57 < (h 237 i29))) => ?_)
            ·
              refine wi_iconst (n := 0) (nx := 17) (r1 := 0) (r2 := 0) (r3 := 0) rfl ?_
              refine wi_zreturn (nx := 18) (r1 := 0) (r2 := 0) (r3 := 0) rfl rfl (by omega) ?_
              refine wk_i ?_
              refine wi_if (cd := .eq) (nx := 157) (r1 := 188) (r2 := 0) (r3 := 0) rfl (by omega) (fun (q33 : 0 = 0) => ?_) (fun (q33 : ¬ (0 = 0)) => by exfalso; omega)
              refine wi_aload_n (i := 0) (x := 236) (nx := 189) (r1 := 0) (r2 := 0) (r3 := 0) rfl rfl ?_
              refine wi_iload_n (i := 2) (e := x21) (nx := 190) (r1 := 0) (r2 := 0) (r3 := 0) rfl rfl ?_
              refine wi_iconst (n := 3) (nx := 191) (r1 := 0) (r2 := 0) (r3 := 0) rfl ?_
              refine wi_icmp (cd := .le) (nx := 194) (r1 := 198) (r2 := 0) (r3 := 0) rfl (by omega) (by omega) (fun (q34 : x21 ≤ 3) => ?_) (fun (q34 : ¬ (x21 ≤ 3)) => ?_)
              ·
                refine wi_iconst (n := 2) (nx := 199) (r1 := 0) (r2 := 0) (r3 := 0) rfl ?_
                refine wr_pf0 (k0 := 236) (x := 2) (bl := 0) (bh := 4) (nx := 202) (r1 := 11) (r2 := 6) (r3 := 0) rfl (by decide) rfl ⟨rfl, rfl⟩ rfl rfl g19 rfl (by omega) (fun h35 g35 w35 u35 => ?_)
                have F36 := F20.then rfl u35
                refine wi_goto (nx := 205) (r1 := 239) (r2 := 0) (r3 := 0) rfl ?_
                refine wi_aload_n (i := 0) (x := 236) (nx := 240) (r1 := 0) (r2 := 0) (r3 := 0) rfl rfl ?_
                refine wi_dup (nx := 241) (r1 := 0) (r2 := 0) (r3 := 0) rfl rfl ?_
                refine wr_gi0 (k0 := 236) (x := h 236 4) (nx := 244) (r1 := 11) (r2 := 4) (r3 := 0) rfl rfl (by decide) rfl ⟨rfl, rfl⟩ rfl ((u35 236 4 rfl).trans (u19 236 4 rfl)) ?_
                refine wi_iload_n (i := 2) (e := x21) (nx := 245) (r1 := 0) (r2 := 0) (r3 := 0) rfl rfl ?_
                refine wr_add (nx := 246) (r1 := 0) (r2 := 0) (r3 := 0) rfl (fun e37 (fe37 : e37 = (h 236 4) + x21) => ?_)
                refine wr_pf0 (k0 := 236) (x := e37) (bl := 0) (bh := 800) (nx := 249) (r1 := 11) (r2 := 4) (r3 := 0) rfl (by decide) rfl ⟨rfl, rfl⟩ rfl rfl g35 rfl (by omega) (fun h38 g38 w38 u38 => ?_)
                have F39 := F36.then rfl u38
                refine wi_return (nx := 250) (r1 := 0) (r2 := 0) (r3 := 0) rfl rfl ?_
                have e40 : h38 236 4 = e37 := w38
                have e41 : h38 236 6 = 2 := ((u38 236 6 rfl).trans w35)
                exact k h38 g38 F39 (show (h 236 4) ≤ (h38 236 4) by omega) (show (h38 236 4) ≤ (h 236 3) by omega) (show (h38 236 6) = 0 ∨ (h 236 4) + 1 ≤ (h38 236 4) by omega)
              ·
                refine wi_iconst (n := 4) (nx := 195) (r1 := 0) (r2 := 0) (r3 := 0) rfl ?_
                refine wi_goto (nx := 198) (r1 := 199) (r2 := 0) (r3 := 0) rfl ?_
                refine wr_pf0 (k0 := 236) (x := 4) (bl := 0) (bh := 4) (nx := 202) (r1 := 11) (r2 := 6) (r3 := 0) rfl (by decide) rfl ⟨rfl, rfl⟩ rfl rfl g19 rfl (by omega) (fun h35 g35 w35 u35 => ?_)
                have F36 := F20.then rfl u35
                refine wi_goto (nx := 205) (r1 := 239) (r2 := 0) (r3 := 0) rfl ?_
                refine wi_aload_n (i := 0) (x := 236) (nx := 240) (r1 := 0) (r2 := 0) (r3 := 0) rfl rfl ?_
                refine wi_dup (nx := 241) (r1 := 0) (r2 := 0) (r3 := 0) rfl rfl ?_
                refine wr_gi0 (k0 := 236) (x := h 236 4) (nx := 244) (r1 := 11) (r2 := 4) (r3 := 0) rfl rfl (by decide) rfl ⟨rfl, rfl⟩ rfl ((u35 236 4 rfl).trans (u19 236 4 rfl)) ?_
                refine wi_iload_n (i := 2) (e := x21) (nx := 245) (r1 := 0) (r2 := 0) (r3 := 0) rfl rfl ?_
                refine wr_add (nx := 246) (r1 := 0) (r2 := 0) (r3 := 0) rfl (fun e37 (fe37 : e37 = (h 236 4) + x21) => ?_)
                refine wr_pf0 (k0 := 236) (x := e37) (bl := 0) (bh := 800) (nx := 249) (r1 := 11) (r2 := 4) (r3 := 0) rfl (by decide) rfl ⟨rfl, rfl⟩ rfl rfl g35 rfl (by omega) (fun h38 g38 w38 u38 => ?_)
                have F39 := F36.then rfl u38
                refine wi_return (nx := 250) (r1 := 0) (r2 := 0) (r3 := 0) rfl rfl ?_
                have e40 : h38 236 4 = e37 := w38
                have e41 : h38 236 6 = 4 := ((u38 236 6 rfl).trans w35)
                exact k h38 g38 F39 (show (h 236 4) ≤ (h38 236 4) by omega) (show (h38 236 4) ≤ (h 236 3) by omega) (show (h38 236 6) = 0 ∨ (h 236 4) + 1 ≤ (h38 236 4) by omega)
            ·
              refine wi_iconst (n := 1) (nx := 13) (r1 := 0) (r2 := 0) (r3 := 0) rfl ?_
              refine wi_goto (nx := 16) (r1 := 17) (r2 := 0) (r3 := 0) rfl ?_
              refine wi_zreturn (nx := 18) (r1 := 0) (r2 := 0) (r3 := 0) rfl rfl (by omega) ?_
              refine wk_i ?_
              refine wi_if (cd := .eq) (nx := 157) (r1 := 188) (r2 := 0) (r3 := 0) rfl (by omega) (fun (q33 : 1 = 0) => by exfalso; omega) (fun (q33 : ¬ (1 = 0)) => ?_)
              refine wi_iload_n (i := 2) (e := x21) (nx := 158) (r1 := 0) (r2 := 0) (r3 := 0) rfl rfl ?_
              refine wi_iconst (n := 3) (nx := 159) (r1 := 0) (r2 := 0) (r3 := 0) rfl ?_
              refine wi_icmp (cd := .ge) (nx := 162) (r1 := 182) (r2 := 0) (r3 := 0) rfl (by omega) (by omega) (fun (q34 : 3 ≤ x21) => ?_) (fun (q34 : ¬ (3 ≤ x21)) => by exfalso; omega)
              refine wr_iinc (i := 2) (n := 1) (v := x21) (fun e35 => [(2, vi e35), (0, .ref 236)]) (nx := 185) (r1 := 0) (r2 := 0) (r3 := 0) rfl rfl (fun _ => rfl) (fun e35 (fe35 : e35 = x21 + 1) => ?_)
              refine wi_goto (nx := 188) (r1 := 146) (r2 := 0) (r3 := 0) rfl ?_
              refine wp.lo (lo := [(0, .ref 236), (2, vi e35)]) ⟨rfl, rfl, trivial⟩ rfl ?_
              exact I22 e35 h19 ⟨rfl, (show (3 ≤ e35 ∧ e35 ≤ 800) ∧ (e35 + (h19 236 4) ≤ (h19 236 3)) by omega)⟩ (show ((h19 236 3) - (h19 236 4) - e35).toNat < ((h19 236 3) - (h19 236 4) - x21).toNat by omega)
-- method 215: Model.goOn()V
set_option maxRecDepth 100000 in
set_option maxHeartbeats 100000000 in
theorem ct_215_p146_236_L2_1 {L : Nat} {xs : Nat → Int32} {d b c : Nat} {h : hp} {cr : Nat → Nat → Option Nat} {Q : hp_Q} (hcr : CR cr)  (g : GI h)   (pp0 : h 236 4 + 1 ≤ h 236 3) (pp1 : h 236 7 ≤ 9) (k : ∀ (h2 : hp) , GI h2 → FR [(236, 236, some (4, 4)), (236, 236, some (6, 6)), (236, 236, some (7, 7))] h h2 → (h 236 4 ≤ h2 236 4) → (h2 236 4 ≤ h 236 3) → (h2 236 6 = 0 ∨ h 236 4 + 1 ≤ h2 236 4) → Q (.inl none) (hp_w h2 cr) b c) : wp (md_xa (L, xs)) (d + 1) 215 (146, [(0, .ref 236), (2, vi 1)], [], hp_w h cr, b, c) Q := by
  have F0 : FR [(236, 236, some (4, 4)), (236, 236, some (6, 6)), (236, 236, some (7, 7))] h h := FR.refl
  have b1 := gi_b (lo := 0) (hi := 800) g 236 4 rfl
  have b2 := gi_b (lo := 0) (hi := 800) g 236 3 rfl
  have b3 := gi_b (lo := 0) (hi := 999) g 236 7 rfl
  refine wi_aload_n (i := 0) (x := 236) (nx := 147) (r1 := 0) (r2 := 0) (r3 := 0) rfl rfl ?_
  refine wi_iload_n (i := 2) (e := 1) (nx := 148) (r1 := 0) (r2 := 0) (r3 := 0) rfl rfl ?_
  refine wr_V (k0 := 236) (rest := []) (as := [.ref 236, vi 1]) (nx := 151) (r1 := 216) (r2 := 1) (r3 := 11) rfl rfl rfl (of_decide_eq_true rfl) rfl rfl (by decide) rfl rfl (of_decide_eq_true rfl) (of_decide_eq_true rfl) ?_
  refine wi_aload_n (i := 0) (x := 236) (nx := 1) (r1 := 0) (r2 := 0) (r3 := 0) rfl rfl ?_
  refine wr_gi0 (k0 := 236) (x := h 236 4) (nx := 4) (r1 := 11) (r2 := 4) (r3 := 0) rfl rfl (by decide) rfl ⟨rfl, rfl⟩ rfl rfl ?_
  refine wi_iload_n (i := 1) (e := 1) (nx := 5) (r1 := 0) (r2 := 0) (r3 := 0) rfl rfl ?_
  refine wr_add (nx := 6) (r1 := 0) (r2 := 0) (r3 := 0) rfl (fun e4 (fe4 : e4 = (h 236 4) + 1) => ?_)
  refine wi_aload_n (i := 0) (x := 236) (nx := 7) (r1 := 0) (r2 := 0) (r3 := 0) rfl rfl ?_
  refine wr_gi0 (k0 := 236) (x := h 236 3) (nx := 10) (r1 := 11) (r2 := 3) (r3 := 0) rfl rfl (by decide) rfl ⟨rfl, rfl⟩ rfl rfl ?_
  refine wi_icmp (cd := .ge) (nx := 13) (r1 := 27) (r2 := 0) (r3 := 0) rfl (by omega) (by omega) (fun (q5 : (h 236 3) ≤ e4) => ?_) (fun (q5 : ¬ ((h 236 3) ≤ e4)) => ?_)
  ·
    refine wi_iconst (n := (-1)) (nx := 28) (r1 := 0) (r2 := 0) (r3 := 0) rfl ?_
    refine wi_ireturn (nx := 29) (r1 := 0) (r2 := 0) (r3 := 0) rfl rfl ?_
    refine wk_i ?_
    refine wi_S (rest := []) (as := [vi (-1)]) (nx := 154) (r1 := 218) (r2 := 17) (r3 := 0) rfl rfl rfl (of_decide_eq_true rfl) rfl rfl (of_decide_eq_true rfl) (of_decide_eq_true rfl) ?_
    refine wi_iload_n (i := 0) (e := -1) (nx := 1) (r1 := 0) (r2 := 0) (r3 := 0) rfl rfl ?_
    refine wi_bipush (n := 48) (nx := 3) (r1 := 0) (r2 := 0) (r3 := 0) rfl (by decide) ?_
    refine wi_icmp (cd := .lt) (nx := 6) (r1 := 16) (r2 := 0) (r3 := 0) rfl (by omega) (by omega) (fun (q6 : (-1) < 48) => ?_) (fun (q6 : ¬ ((-1) < 48)) => by exfalso; omega)
    refine wi_iconst (n := 0) (nx := 17) (r1 := 0) (r2 := 0) (r3 := 0) rfl ?_
    refine wi_zreturn (nx := 18) (r1 := 0) (r2 := 0) (r3 := 0) rfl rfl (by omega) ?_
    refine wk_i ?_
    refine wi_if (cd := .eq) (nx := 157) (r1 := 188) (r2 := 0) (r3 := 0) rfl (by omega) (fun (q7 : 0 = 0) => ?_) (fun (q7 : ¬ (0 = 0)) => by exfalso; omega)
    refine wi_aload_n (i := 0) (x := 236) (nx := 189) (r1 := 0) (r2 := 0) (r3 := 0) rfl rfl ?_
    refine wi_iload_n (i := 2) (e := 1) (nx := 190) (r1 := 0) (r2 := 0) (r3 := 0) rfl rfl ?_
    refine wi_iconst (n := 3) (nx := 191) (r1 := 0) (r2 := 0) (r3 := 0) rfl ?_
    refine wi_icmp (cd := .le) (nx := 194) (r1 := 198) (r2 := 0) (r3 := 0) rfl (by omega) (by omega) (fun (q8 : 1 ≤ 3) => ?_) (fun (q8 : ¬ (1 ≤ 3)) => by exfalso; omega)
    refine wi_iconst (n := 2) (nx := 199) (r1 := 0) (r2 := 0) (r3 := 0) rfl ?_
    refine wr_pf0 (k0 := 236) (x := 2) (bl := 0) (bh := 4) (nx := 202) (r1 := 11) (r2 := 6) (r3 := 0) rfl (by decide) rfl ⟨rfl, rfl⟩ rfl rfl g rfl (by omega) (fun h9 g9 w9 u9 => ?_)
    have F10 := F0.then rfl u9
    refine wi_goto (nx := 205) (r1 := 239) (r2 := 0) (r3 := 0) rfl ?_
    refine wi_aload_n (i := 0) (x := 236) (nx := 240) (r1 := 0) (r2 := 0) (r3 := 0) rfl rfl ?_
    refine wi_dup (nx := 241) (r1 := 0) (r2 := 0) (r3 := 0) rfl rfl ?_
    refine wr_gi0 (k0 := 236) (x := h 236 4) (nx := 244) (r1 := 11) (r2 := 4) (r3 := 0) rfl rfl (by decide) rfl ⟨rfl, rfl⟩ rfl (u9 236 4 rfl) ?_
    refine wi_iload_n (i := 2) (e := 1) (nx := 245) (r1 := 0) (r2 := 0) (r3 := 0) rfl rfl ?_
    refine wr_add (nx := 246) (r1 := 0) (r2 := 0) (r3 := 0) rfl (fun e11 (fe11 : e11 = (h 236 4) + 1) => ?_)
    refine wr_pf0 (k0 := 236) (x := e11) (bl := 0) (bh := 800) (nx := 249) (r1 := 11) (r2 := 4) (r3 := 0) rfl (by decide) rfl ⟨rfl, rfl⟩ rfl rfl g9 rfl (by omega) (fun h12 g12 w12 u12 => ?_)
    have F13 := F10.then rfl u12
    refine wi_return (nx := 250) (r1 := 0) (r2 := 0) (r3 := 0) rfl rfl ?_
    have e14 : h12 236 4 = e11 := w12
    have e15 : h12 236 6 = 2 := ((u12 236 6 rfl).trans w9)
    exact k h12 g12 F13 (show (h 236 4) ≤ (h12 236 4) by omega) (show (h12 236 4) ≤ (h 236 3) by omega) (show (h12 236 6) = 0 ∨ (h 236 4) + 1 ≤ (h12 236 4) by omega)
  ·
    refine wi_aload_n (i := 0) (x := 236) (nx := 14) (r1 := 0) (r2 := 0) (r3 := 0) rfl rfl ?_
    refine wr_gr (k0 := 236) (x := 237) (nx := 17) (r1 := 11) (r2 := 1) (r3 := 0) rfl rfl (by decide) rfl ⟨rfl, rfl⟩ rfl ?_
    refine wi_aload_n (i := 0) (x := 236) (nx := 18) (r1 := 0) (r2 := 0) (r3 := 0) rfl rfl ?_
    refine wr_gi0 (k0 := 236) (x := h 236 4) (nx := 21) (r1 := 11) (r2 := 4) (r3 := 0) rfl rfl (by decide) rfl ⟨rfl, rfl⟩ rfl rfl ?_
    refine wi_iload_n (i := 1) (e := 1) (nx := 22) (r1 := 0) (r2 := 0) (r3 := 0) rfl rfl ?_
    refine wr_add (nx := 23) (r1 := 0) (r2 := 0) (r3 := 0) rfl (fun e6 (fe6 : e6 = (h 236 4) + 1) => ?_)
    obtain ⟨i7, ei7⟩ : ∃ q : Nat, e6 = (q : Int) := ⟨(e6).toNat, by omega⟩
    have b8 := gi_b (lo := 0) (hi := 255) g 237 i7 rfl
    refine wr_ia (k0 := 237) (a := e6) (f := i7) (x := h 237 i7) (nx := 24) (r1 := 0) (r2 := 0) (r3 := 0) rfl (by decide) rfl (by omega) (by omega) (by decide) rfl ?_
    refine wi_goto (nx := 27) (r1 := 28) (r2 := 0) (r3 := 0) rfl ?_
    refine wi_ireturn (nx := 29) (r1 := 0) (r2 := 0) (r3 := 0) rfl rfl ?_
    refine wk_i ?_
    refine wi_S (rest := []) (as := [vi (h 237 i7)]) (nx := 154) (r1 := 218) (r2 := 17) (r3 := 0) rfl rfl rfl (of_decide_eq_true rfl) rfl rfl (of_decide_eq_true rfl) (of_decide_eq_true rfl) ?_
    refine wi_iload_n (i := 0) (e := h 237 i7) (nx := 1) (r1 := 0) (r2 := 0) (r3 := 0) rfl rfl ?_
    refine wi_bipush (n := 48) (nx := 3) (r1 := 0) (r2 := 0) (r3 := 0) rfl (by decide) ?_
    refine wi_icmp (cd := .lt) (nx := 6) (r1 := 16) (r2 := 0) (r3 := 0) rfl (by omega) (by omega) (fun (q9 : (h 237 i7) < 48) => ?_) (fun (q9 : ¬ ((h 237 i7) < 48)) => ?_)
    ·
      refine wi_iconst (n := 0) (nx := 17) (r1 := 0) (r2 := 0) (r3 := 0) rfl ?_
      refine wi_zreturn (nx := 18) (r1 := 0) (r2 := 0) (r3 := 0) rfl rfl (by omega) ?_
      refine wk_i ?_
      refine wi_if (cd := .eq) (nx := 157) (r1 := 188) (r2 := 0) (r3 := 0) rfl (by omega) (fun (q10 : 0 = 0) => ?_) (fun (q10 : ¬ (0 = 0)) => by exfalso; omega)
      refine wi_aload_n (i := 0) (x := 236) (nx := 189) (r1 := 0) (r2 := 0) (r3 := 0) rfl rfl ?_
      refine wi_iload_n (i := 2) (e := 1) (nx := 190) (r1 := 0) (r2 := 0) (r3 := 0) rfl rfl ?_
      refine wi_iconst (n := 3) (nx := 191) (r1 := 0) (r2 := 0) (r3 := 0) rfl ?_
      refine wi_icmp (cd := .le) (nx := 194) (r1 := 198) (r2 := 0) (r3 := 0) rfl (by omega) (by omega) (fun (q11 : 1 ≤ 3) => ?_) (fun (q11 : ¬ (1 ≤ 3)) => by exfalso; omega)
      refine wi_iconst (n := 2) (nx := 199) (r1 := 0) (r2 := 0) (r3 := 0) rfl ?_
      refine wr_pf0 (k0 := 236) (x := 2) (bl := 0) (bh := 4) (nx := 202) (r1 := 11) (r2 := 6) (r3 := 0) rfl (by decide) rfl ⟨rfl, rfl⟩ rfl rfl g rfl (by omega) (fun h12 g12 w12 u12 => ?_)
      have F13 := F0.then rfl u12
      refine wi_goto (nx := 205) (r1 := 239) (r2 := 0) (r3 := 0) rfl ?_
      refine wi_aload_n (i := 0) (x := 236) (nx := 240) (r1 := 0) (r2 := 0) (r3 := 0) rfl rfl ?_
      refine wi_dup (nx := 241) (r1 := 0) (r2 := 0) (r3 := 0) rfl rfl ?_
      refine wr_gi0 (k0 := 236) (x := h 236 4) (nx := 244) (r1 := 11) (r2 := 4) (r3 := 0) rfl rfl (by decide) rfl ⟨rfl, rfl⟩ rfl (u12 236 4 rfl) ?_
      refine wi_iload_n (i := 2) (e := 1) (nx := 245) (r1 := 0) (r2 := 0) (r3 := 0) rfl rfl ?_
      refine wr_add (nx := 246) (r1 := 0) (r2 := 0) (r3 := 0) rfl (fun e14 (fe14 : e14 = (h 236 4) + 1) => ?_)
      refine wr_pf0 (k0 := 236) (x := e14) (bl := 0) (bh := 800) (nx := 249) (r1 := 11) (r2 := 4) (r3 := 0) rfl (by decide) rfl ⟨rfl, rfl⟩ rfl rfl g12 rfl (by omega) (fun h15 g15 w15 u15 => ?_)
      have F16 := F13.then rfl u15
      refine wi_return (nx := 250) (r1 := 0) (r2 := 0) (r3 := 0) rfl rfl ?_
      have e17 : h15 236 4 = e14 := w15
      have e18 : h15 236 6 = 2 := ((u15 236 6 rfl).trans w12)
      exact k h15 g15 F16 (show (h 236 4) ≤ (h15 236 4) by omega) (show (h15 236 4) ≤ (h 236 3) by omega) (show (h15 236 6) = 0 ∨ (h 236 4) + 1 ≤ (h15 236 4) by omega)
    ·
      refine wi_iload_n (i := 0) (e := h 237 i7) (nx := 7) (r1 := 0) (r2 := 0) (r3 := 0) rfl rfl ?_
      refine wi_bipush (n := 57) (nx := 9) (r1 := 0) (r2 := 0) (r3 := 0) rfl (by decide) ?_
      refine wi_icmp (cd := .gt) (nx := 12) (r1 := 16) (r2 := 0) (r3 := 0) rfl (by omega) (by omega) (fun (q10 : 57 < (h 237 i7)) => ?_) (fun (q10 : ¬ (57 < (h 237 i7))) => ?_)
      ·
        refine wi_iconst (n := 0) (nx := 17) (r1 := 0) (r2 := 0) (r3 := 0) rfl ?_
        refine wi_zreturn (nx := 18) (r1 := 0) (r2 := 0) (r3 := 0) rfl rfl (by omega) ?_
        refine wk_i ?_
        refine wi_if (cd := .eq) (nx := 157) (r1 := 188) (r2 := 0) (r3 := 0) rfl (by omega) (fun (q11 : 0 = 0) => ?_) (fun (q11 : ¬ (0 = 0)) => by exfalso; omega)
        refine wi_aload_n (i := 0) (x := 236) (nx := 189) (r1 := 0) (r2 := 0) (r3 := 0) rfl rfl ?_
        refine wi_iload_n (i := 2) (e := 1) (nx := 190) (r1 := 0) (r2 := 0) (r3 := 0) rfl rfl ?_
        refine wi_iconst (n := 3) (nx := 191) (r1 := 0) (r2 := 0) (r3 := 0) rfl ?_
        refine wi_icmp (cd := .le) (nx := 194) (r1 := 198) (r2 := 0) (r3 := 0) rfl (by omega) (by omega) (fun (q12 : 1 ≤ 3) => ?_) (fun (q12 : ¬ (1 ≤ 3)) => by exfalso; omega)
        refine wi_iconst (n := 2) (nx := 199) (r1 := 0) (r2 := 0) (r3 := 0) rfl ?_
        refine wr_pf0 (k0 := 236) (x := 2) (bl := 0) (bh := 4) (nx := 202) (r1 := 11) (r2 := 6) (r3 := 0) rfl (by decide) rfl ⟨rfl, rfl⟩ rfl rfl g rfl (by omega) (fun h13 g13 w13 u13 => ?_)
        have F14 := F0.then rfl u13
        refine wi_goto (nx := 205) (r1 := 239) (r2 := 0) (r3 := 0) rfl ?_
        refine wi_aload_n (i := 0) (x := 236) (nx := 240) (r1 := 0) (r2 := 0) (r3 := 0) rfl rfl ?_
        refine wi_dup (nx := 241) (r1 := 0) (r2 := 0) (r3 := 0) rfl rfl ?_
        refine wr_gi0 (k0 := 236) (x := h 236 4) (nx := 244) (r1 := 11) (r2 := 4) (r3 := 0) rfl rfl (by decide) rfl ⟨rfl, rfl⟩ rfl (u13 236 4 rfl) ?_
        refine wi_iload_n (i := 2) (e := 1) (nx := 245) (r1 := 0) (r2 := 0) (r3 := 0) rfl rfl ?_
        refine wr_add (nx := 246) (r1 := 0) (r2 := 0) (r3 := 0) rfl (fun e15 (fe15 : e15 = (h 236 4) + 1) => ?_)
        refine wr_pf0 (k0 := 236) (x := e15) (bl := 0) (bh := 800) (nx := 249) (r1 := 11) (r2 := 4) (r3 := 0) rfl (by decide) rfl ⟨rfl, rfl⟩ rfl rfl g13 rfl (by omega) (fun h16 g16 w16 u16 => ?_)
        have F17 := F14.then rfl u16
        refine wi_return (nx := 250) (r1 := 0) (r2 := 0) (r3 := 0) rfl rfl ?_
        have e18 : h16 236 4 = e15 := w16
        have e19 : h16 236 6 = 2 := ((u16 236 6 rfl).trans w13)
        exact k h16 g16 F17 (show (h 236 4) ≤ (h16 236 4) by omega) (show (h16 236 4) ≤ (h 236 3) by omega) (show (h16 236 6) = 0 ∨ (h 236 4) + 1 ≤ (h16 236 4) by omega)
      ·
        refine wi_iconst (n := 1) (nx := 13) (r1 := 0) (r2 := 0) (r3 := 0) rfl ?_
        refine wi_goto (nx := 16) (r1 := 17) (r2 := 0) (r3 := 0) rfl ?_
        refine wi_zreturn (nx := 18) (r1 := 0) (r2 := 0) (r3 := 0) rfl rfl (by omega) ?_
        refine wk_i ?_
        refine wi_if (cd := .eq) (nx := 157) (r1 := 188) (r2 := 0) (r3 := 0) rfl (by omega) (fun (q11 : 1 = 0) => by exfalso; omega) (fun (q11 : ¬ (1 = 0)) => ?_)
        refine wi_iload_n (i := 2) (e := 1) (nx := 158) (r1 := 0) (r2 := 0) (r3 := 0) rfl rfl ?_
        refine wi_iconst (n := 3) (nx := 159) (r1 := 0) (r2 := 0) (r3 := 0) rfl ?_
        refine wi_icmp (cd := .ge) (nx := 162) (r1 := 182) (r2 := 0) (r3 := 0) rfl (by omega) (by omega) (fun (q12 : 3 ≤ 1) => by exfalso; omega) (fun (q12 : ¬ (3 ≤ 1)) => ?_)
        refine wi_aload_n (i := 0) (x := 236) (nx := 163) (r1 := 0) (r2 := 0) (r3 := 0) rfl rfl ?_
        refine wi_bipush (n := 10) (nx := 165) (r1 := 0) (r2 := 0) (r3 := 0) rfl (by decide) ?_
        refine wi_aload_n (i := 0) (x := 236) (nx := 166) (r1 := 0) (r2 := 0) (r3 := 0) rfl rfl ?_
        refine wr_gi0 (k0 := 236) (x := h 236 7) (nx := 169) (r1 := 11) (r2 := 7) (r3 := 0) rfl rfl (by decide) rfl ⟨rfl, rfl⟩ rfl rfl ?_
        refine wr_mul (nx := 170) (r1 := 0) (r2 := 0) (r3 := 0) rfl (fun e13 (fe13 : e13 = 10 * (h 236 7)) => ?_)
        refine wi_aload_n (i := 0) (x := 236) (nx := 171) (r1 := 0) (r2 := 0) (r3 := 0) rfl rfl ?_
        refine wi_iload_n (i := 2) (e := 1) (nx := 172) (r1 := 0) (r2 := 0) (r3 := 0) rfl rfl ?_
        refine wr_V (k0 := 236) (rest := [vi e13, .ref 236]) (as := [.ref 236, vi 1]) (nx := 175) (r1 := 216) (r2 := 1) (r3 := 11) rfl rfl rfl (of_decide_eq_true rfl) rfl rfl (by decide) rfl rfl (of_decide_eq_true rfl) (of_decide_eq_true rfl) ?_
        refine wi_aload_n (i := 0) (x := 236) (nx := 1) (r1 := 0) (r2 := 0) (r3 := 0) rfl rfl ?_
        refine wr_gi0 (k0 := 236) (x := h 236 4) (nx := 4) (r1 := 11) (r2 := 4) (r3 := 0) rfl rfl (by decide) rfl ⟨rfl, rfl⟩ rfl rfl ?_
        refine wi_iload_n (i := 1) (e := 1) (nx := 5) (r1 := 0) (r2 := 0) (r3 := 0) rfl rfl ?_
        refine wr_add (nx := 6) (r1 := 0) (r2 := 0) (r3 := 0) rfl (fun e14 (fe14 : e14 = (h 236 4) + 1) => ?_)
        refine wi_aload_n (i := 0) (x := 236) (nx := 7) (r1 := 0) (r2 := 0) (r3 := 0) rfl rfl ?_
        refine wr_gi0 (k0 := 236) (x := h 236 3) (nx := 10) (r1 := 11) (r2 := 3) (r3 := 0) rfl rfl (by decide) rfl ⟨rfl, rfl⟩ rfl rfl ?_
        refine wi_icmp (cd := .ge) (nx := 13) (r1 := 27) (r2 := 0) (r3 := 0) rfl (by omega) (by omega) (fun (q15 : (h 236 3) ≤ e14) => by exfalso; omega) (fun (q15 : ¬ ((h 236 3) ≤ e14)) => ?_)
        refine wi_aload_n (i := 0) (x := 236) (nx := 14) (r1 := 0) (r2 := 0) (r3 := 0) rfl rfl ?_
        refine wr_gr (k0 := 236) (x := 237) (nx := 17) (r1 := 11) (r2 := 1) (r3 := 0) rfl rfl (by decide) rfl ⟨rfl, rfl⟩ rfl ?_
        refine wi_aload_n (i := 0) (x := 236) (nx := 18) (r1 := 0) (r2 := 0) (r3 := 0) rfl rfl ?_
        refine wr_gi0 (k0 := 236) (x := h 236 4) (nx := 21) (r1 := 11) (r2 := 4) (r3 := 0) rfl rfl (by decide) rfl ⟨rfl, rfl⟩ rfl rfl ?_
        refine wi_iload_n (i := 1) (e := 1) (nx := 22) (r1 := 0) (r2 := 0) (r3 := 0) rfl rfl ?_
        refine wr_add (nx := 23) (r1 := 0) (r2 := 0) (r3 := 0) rfl (fun e16 (fe16 : e16 = (h 236 4) + 1) => ?_)
        refine wr_ia (k0 := 237) (a := e16) (f := i7) (x := h 237 i7) (nx := 24) (r1 := 0) (r2 := 0) (r3 := 0) rfl (by decide) rfl (by omega) (by omega) (by decide) rfl ?_
        refine wi_goto (nx := 27) (r1 := 28) (r2 := 0) (r3 := 0) rfl ?_
        refine wi_ireturn (nx := 29) (r1 := 0) (r2 := 0) (r3 := 0) rfl rfl ?_
        refine wk_i ?_
        refine wr_add (nx := 176) (r1 := 0) (r2 := 0) (r3 := 0) rfl (fun e17 (fe17 : e17 = e13 + (h 237 i7)) => ?_)
        refine wi_bipush (n := 48) (nx := 178) (r1 := 0) (r2 := 0) (r3 := 0) rfl (by decide) ?_
        refine wr_sub (nx := 179) (r1 := 0) (r2 := 0) (r3 := 0) rfl (fun e18 (fe18 : e18 = e17 - 48) => ?_)
        refine wr_pf0 (k0 := 236) (x := e18) (bl := 0) (bh := 999) (nx := 182) (r1 := 11) (r2 := 7) (r3 := 0) rfl (by decide) rfl ⟨rfl, rfl⟩ rfl rfl g rfl (by omega) (fun h19 g19 w19 u19 => ?_)
        have F20 := F0.then rfl u19
        refine wr_iincL (i := 2) (n := 1) (v := 1) (2) ([(2, vi 2), (0, .ref 236)]) (nx := 185) (r1 := 0) (r2 := 0) (r3 := 0) rfl rfl (by decide) rfl ?_
        refine wi_goto (nx := 188) (r1 := 146) (r2 := 0) (r3 := 0) rfl ?_
        refine wp.lo (lo := [(0, .ref 236), (2, vi 2)]) ⟨rfl, rfl, trivial⟩ rfl ?_
        have e22 : h19 236 4 = h 236 4 := (u19 236 4 rfl)
        have e23 : h19 236 3 = h 236 3 := (u19 236 3 rfl)
        have e24 : h19 236 7 = e18 := w19
        refine ct_215_p146_236_L2_2 hcr  g19   (show (h19 236 4) + 2 ≤ (h19 236 3) by omega) (show (h19 236 7) ≤ 99 by omega) (fun h21 g21 u21 (p21_0 : (h19 236 4) ≤ (h21 236 4)) (p21_1 : (h21 236 4) ≤ (h19 236 3)) (p21_2 : (h21 236 6) = 0 ∨ (h19 236 4) + 1 ≤ (h21 236 4)) => ?_)
        have F25 := F20.then (by decide +kernel) u21
        have b26 := gi_b (lo := 0) (hi := 800) g21 236 4 rfl
        have b27 := gi_b (lo := 0) (hi := 4) g21 236 6 rfl
        exact k h21 g21 F25 (show (h 236 4) ≤ (h21 236 4) by omega) (show (h21 236 4) ≤ (h 236 3) by omega) (show (h21 236 6) = 0 ∨ (h 236 4) + 1 ≤ (h21 236 4) by omega)
-- method 215: Model.goOn()V
set_option maxRecDepth 100000 in
set_option maxHeartbeats 100000000 in
theorem ct_215_p146_236_L2_0 {L : Nat} {xs : Nat → Int32} {d b c : Nat} {h : hp} {cr : Nat → Nat → Option Nat} {Q : hp_Q} (hcr : CR cr)  (g : GI h)   (pp0 : h 236 4 + 1 ≤ h 236 3) (pp1 : 48 ≤ h 237 (0 + (h 236 4).toNat)) (pp2 : h 237 (0 + (h 236 4).toNat) ≤ 57) (pp3 : h 236 7 = 0) (k : ∀ (h2 : hp) , GI h2 → FR [(236, 236, some (4, 4)), (236, 236, some (6, 6)), (236, 236, some (7, 7))] h h2 → (h 236 4 ≤ h2 236 4) → (h2 236 4 ≤ h 236 3) → (h2 236 6 = 0 ∨ h 236 4 + 1 ≤ h2 236 4) → Q (.inl none) (hp_w h2 cr) b c) : wp (md_xa (L, xs)) (d + 1) 215 (146, [(0, .ref 236), (2, vi 0)], [], hp_w h cr, b, c) Q := by
  have F0 : FR [(236, 236, some (4, 4)), (236, 236, some (6, 6)), (236, 236, some (7, 7))] h h := FR.refl
  have b1 := gi_b (lo := 0) (hi := 800) g 236 4 rfl
  have b2 := gi_b (lo := 0) (hi := 800) g 236 3 rfl
  obtain ⟨i3, ei3⟩ : ∃ q : Nat, (0 + h 236 4) = (q : Int) := ⟨(0 + h 236 4).toNat, by omega⟩
  have b4 := gi_b (lo := 0) (hi := 255) g 237 i3 rfl
  have e5 : h 237 (0 + (h 236 4).toNat) = h 237 i3 := by rw [show 0 + (h 236 4).toNat = i3 by omega]
  have b6 := gi_b (lo := 0) (hi := 999) g 236 7 rfl
  refine wi_aload_n (i := 0) (x := 236) (nx := 147) (r1 := 0) (r2 := 0) (r3 := 0) rfl rfl ?_
  refine wi_iload_n (i := 2) (e := 0) (nx := 148) (r1 := 0) (r2 := 0) (r3 := 0) rfl rfl ?_
  refine wr_V (k0 := 236) (rest := []) (as := [.ref 236, vi 0]) (nx := 151) (r1 := 216) (r2 := 1) (r3 := 11) rfl rfl rfl (of_decide_eq_true rfl) rfl rfl (by decide) rfl rfl (of_decide_eq_true rfl) (of_decide_eq_true rfl) ?_
  refine wi_aload_n (i := 0) (x := 236) (nx := 1) (r1 := 0) (r2 := 0) (r3 := 0) rfl rfl ?_
  refine wr_gi0 (k0 := 236) (x := h 236 4) (nx := 4) (r1 := 11) (r2 := 4) (r3 := 0) rfl rfl (by decide) rfl ⟨rfl, rfl⟩ rfl rfl ?_
  refine wi_iload_n (i := 1) (e := 0) (nx := 5) (r1 := 0) (r2 := 0) (r3 := 0) rfl rfl ?_
  refine wr_add (nx := 6) (r1 := 0) (r2 := 0) (r3 := 0) rfl (fun e7 (fe7 : e7 = (h 236 4) + 0) => ?_)
  refine wi_aload_n (i := 0) (x := 236) (nx := 7) (r1 := 0) (r2 := 0) (r3 := 0) rfl rfl ?_
  refine wr_gi0 (k0 := 236) (x := h 236 3) (nx := 10) (r1 := 11) (r2 := 3) (r3 := 0) rfl rfl (by decide) rfl ⟨rfl, rfl⟩ rfl rfl ?_
  refine wi_icmp (cd := .ge) (nx := 13) (r1 := 27) (r2 := 0) (r3 := 0) rfl (by omega) (by omega) (fun (q8 : (h 236 3) ≤ e7) => by exfalso; omega) (fun (q8 : ¬ ((h 236 3) ≤ e7)) => ?_)
  refine wi_aload_n (i := 0) (x := 236) (nx := 14) (r1 := 0) (r2 := 0) (r3 := 0) rfl rfl ?_
  refine wr_gr (k0 := 236) (x := 237) (nx := 17) (r1 := 11) (r2 := 1) (r3 := 0) rfl rfl (by decide) rfl ⟨rfl, rfl⟩ rfl ?_
  refine wi_aload_n (i := 0) (x := 236) (nx := 18) (r1 := 0) (r2 := 0) (r3 := 0) rfl rfl ?_
  refine wr_gi0 (k0 := 236) (x := h 236 4) (nx := 21) (r1 := 11) (r2 := 4) (r3 := 0) rfl rfl (by decide) rfl ⟨rfl, rfl⟩ rfl rfl ?_
  refine wi_iload_n (i := 1) (e := 0) (nx := 22) (r1 := 0) (r2 := 0) (r3 := 0) rfl rfl ?_
  refine wr_add (nx := 23) (r1 := 0) (r2 := 0) (r3 := 0) rfl (fun e9 (fe9 : e9 = (h 236 4) + 0) => ?_)
  refine wr_ia (k0 := 237) (a := e9) (f := i3) (x := h 237 i3) (nx := 24) (r1 := 0) (r2 := 0) (r3 := 0) rfl (by decide) rfl (by omega) (by omega) (by decide) rfl ?_
  refine wi_goto (nx := 27) (r1 := 28) (r2 := 0) (r3 := 0) rfl ?_
  refine wi_ireturn (nx := 29) (r1 := 0) (r2 := 0) (r3 := 0) rfl rfl ?_
  refine wk_i ?_
  refine wi_S (rest := []) (as := [vi (h 237 i3)]) (nx := 154) (r1 := 218) (r2 := 17) (r3 := 0) rfl rfl rfl (of_decide_eq_true rfl) rfl rfl (of_decide_eq_true rfl) (of_decide_eq_true rfl) ?_
  refine wi_iload_n (i := 0) (e := h 237 i3) (nx := 1) (r1 := 0) (r2 := 0) (r3 := 0) rfl rfl ?_
  refine wi_bipush (n := 48) (nx := 3) (r1 := 0) (r2 := 0) (r3 := 0) rfl (by decide) ?_
  refine wi_icmp (cd := .lt) (nx := 6) (r1 := 16) (r2 := 0) (r3 := 0) rfl (by omega) (by omega) (fun (q10 : (h 237 i3) < 48) => by exfalso; omega) (fun (q10 : ¬ ((h 237 i3) < 48)) => ?_)
  refine wi_iload_n (i := 0) (e := h 237 i3) (nx := 7) (r1 := 0) (r2 := 0) (r3 := 0) rfl rfl ?_
  refine wi_bipush (n := 57) (nx := 9) (r1 := 0) (r2 := 0) (r3 := 0) rfl (by decide) ?_
  refine wi_icmp (cd := .gt) (nx := 12) (r1 := 16) (r2 := 0) (r3 := 0) rfl (by omega) (by omega) (fun (q11 : 57 < (h 237 i3)) => by exfalso; omega) (fun (q11 : ¬ (57 < (h 237 i3))) => ?_)
  refine wi_iconst (n := 1) (nx := 13) (r1 := 0) (r2 := 0) (r3 := 0) rfl ?_
  refine wi_goto (nx := 16) (r1 := 17) (r2 := 0) (r3 := 0) rfl ?_
  refine wi_zreturn (nx := 18) (r1 := 0) (r2 := 0) (r3 := 0) rfl rfl (by omega) ?_
  refine wk_i ?_
  refine wi_if (cd := .eq) (nx := 157) (r1 := 188) (r2 := 0) (r3 := 0) rfl (by omega) (fun (q12 : 1 = 0) => by exfalso; omega) (fun (q12 : ¬ (1 = 0)) => ?_)
  refine wi_iload_n (i := 2) (e := 0) (nx := 158) (r1 := 0) (r2 := 0) (r3 := 0) rfl rfl ?_
  refine wi_iconst (n := 3) (nx := 159) (r1 := 0) (r2 := 0) (r3 := 0) rfl ?_
  refine wi_icmp (cd := .ge) (nx := 162) (r1 := 182) (r2 := 0) (r3 := 0) rfl (by omega) (by omega) (fun (q13 : 3 ≤ 0) => by exfalso; omega) (fun (q13 : ¬ (3 ≤ 0)) => ?_)
  refine wi_aload_n (i := 0) (x := 236) (nx := 163) (r1 := 0) (r2 := 0) (r3 := 0) rfl rfl ?_
  refine wi_bipush (n := 10) (nx := 165) (r1 := 0) (r2 := 0) (r3 := 0) rfl (by decide) ?_
  refine wi_aload_n (i := 0) (x := 236) (nx := 166) (r1 := 0) (r2 := 0) (r3 := 0) rfl rfl ?_
  refine wr_gi0 (k0 := 236) (x := h 236 7) (nx := 169) (r1 := 11) (r2 := 7) (r3 := 0) rfl rfl (by decide) rfl ⟨rfl, rfl⟩ rfl rfl ?_
  refine wr_mul (nx := 170) (r1 := 0) (r2 := 0) (r3 := 0) rfl (fun e14 (fe14 : e14 = 10 * (h 236 7)) => ?_)
  refine wi_aload_n (i := 0) (x := 236) (nx := 171) (r1 := 0) (r2 := 0) (r3 := 0) rfl rfl ?_
  refine wi_iload_n (i := 2) (e := 0) (nx := 172) (r1 := 0) (r2 := 0) (r3 := 0) rfl rfl ?_
  refine wr_V (k0 := 236) (rest := [vi e14, .ref 236]) (as := [.ref 236, vi 0]) (nx := 175) (r1 := 216) (r2 := 1) (r3 := 11) rfl rfl rfl (of_decide_eq_true rfl) rfl rfl (by decide) rfl rfl (of_decide_eq_true rfl) (of_decide_eq_true rfl) ?_
  refine wi_aload_n (i := 0) (x := 236) (nx := 1) (r1 := 0) (r2 := 0) (r3 := 0) rfl rfl ?_
  refine wr_gi0 (k0 := 236) (x := h 236 4) (nx := 4) (r1 := 11) (r2 := 4) (r3 := 0) rfl rfl (by decide) rfl ⟨rfl, rfl⟩ rfl rfl ?_
  refine wi_iload_n (i := 1) (e := 0) (nx := 5) (r1 := 0) (r2 := 0) (r3 := 0) rfl rfl ?_
  refine wr_add (nx := 6) (r1 := 0) (r2 := 0) (r3 := 0) rfl (fun e15 (fe15 : e15 = (h 236 4) + 0) => ?_)
  refine wi_aload_n (i := 0) (x := 236) (nx := 7) (r1 := 0) (r2 := 0) (r3 := 0) rfl rfl ?_
  refine wr_gi0 (k0 := 236) (x := h 236 3) (nx := 10) (r1 := 11) (r2 := 3) (r3 := 0) rfl rfl (by decide) rfl ⟨rfl, rfl⟩ rfl rfl ?_
  refine wi_icmp (cd := .ge) (nx := 13) (r1 := 27) (r2 := 0) (r3 := 0) rfl (by omega) (by omega) (fun (q16 : (h 236 3) ≤ e15) => by exfalso; omega) (fun (q16 : ¬ ((h 236 3) ≤ e15)) => ?_)
  refine wi_aload_n (i := 0) (x := 236) (nx := 14) (r1 := 0) (r2 := 0) (r3 := 0) rfl rfl ?_
  refine wr_gr (k0 := 236) (x := 237) (nx := 17) (r1 := 11) (r2 := 1) (r3 := 0) rfl rfl (by decide) rfl ⟨rfl, rfl⟩ rfl ?_
  refine wi_aload_n (i := 0) (x := 236) (nx := 18) (r1 := 0) (r2 := 0) (r3 := 0) rfl rfl ?_
  refine wr_gi0 (k0 := 236) (x := h 236 4) (nx := 21) (r1 := 11) (r2 := 4) (r3 := 0) rfl rfl (by decide) rfl ⟨rfl, rfl⟩ rfl rfl ?_
  refine wi_iload_n (i := 1) (e := 0) (nx := 22) (r1 := 0) (r2 := 0) (r3 := 0) rfl rfl ?_
  refine wr_add (nx := 23) (r1 := 0) (r2 := 0) (r3 := 0) rfl (fun e17 (fe17 : e17 = (h 236 4) + 0) => ?_)
  refine wr_ia (k0 := 237) (a := e17) (f := i3) (x := h 237 i3) (nx := 24) (r1 := 0) (r2 := 0) (r3 := 0) rfl (by decide) rfl (by omega) (by omega) (by decide) rfl ?_
  refine wi_goto (nx := 27) (r1 := 28) (r2 := 0) (r3 := 0) rfl ?_
  refine wi_ireturn (nx := 29) (r1 := 0) (r2 := 0) (r3 := 0) rfl rfl ?_
  refine wk_i ?_
  refine wr_add (nx := 176) (r1 := 0) (r2 := 0) (r3 := 0) rfl (fun e18 (fe18 : e18 = e14 + (h 237 i3)) => ?_)
  refine wi_bipush (n := 48) (nx := 178) (r1 := 0) (r2 := 0) (r3 := 0) rfl (by decide) ?_
  refine wr_sub (nx := 179) (r1 := 0) (r2 := 0) (r3 := 0) rfl (fun e19 (fe19 : e19 = e18 - 48) => ?_)
  refine wr_pf0 (k0 := 236) (x := e19) (bl := 0) (bh := 999) (nx := 182) (r1 := 11) (r2 := 7) (r3 := 0) rfl (by decide) rfl ⟨rfl, rfl⟩ rfl rfl g rfl (by omega) (fun h20 g20 w20 u20 => ?_)
  have F21 := F0.then rfl u20
  refine wr_iincL (i := 2) (n := 1) (v := 0) (1) ([(2, vi 1), (0, .ref 236)]) (nx := 185) (r1 := 0) (r2 := 0) (r3 := 0) rfl rfl (by decide) rfl ?_
  refine wi_goto (nx := 188) (r1 := 146) (r2 := 0) (r3 := 0) rfl ?_
  refine wp.lo (lo := [(0, .ref 236), (2, vi 1)]) ⟨rfl, rfl, trivial⟩ rfl ?_
  have e23 : h20 236 4 = h 236 4 := (u20 236 4 rfl)
  have e24 : h20 236 3 = h 236 3 := (u20 236 3 rfl)
  have e25 : h20 236 7 = e19 := w20
  refine ct_215_p146_236_L2_1 hcr  g20   (show (h20 236 4) + 1 ≤ (h20 236 3) by omega) (show (h20 236 7) ≤ 9 by omega) (fun h22 g22 u22 (p22_0 : (h20 236 4) ≤ (h22 236 4)) (p22_1 : (h22 236 4) ≤ (h20 236 3)) (p22_2 : (h22 236 6) = 0 ∨ (h20 236 4) + 1 ≤ (h22 236 4)) => ?_)
  have F26 := F21.then (by decide +kernel) u22
  have b27 := gi_b (lo := 0) (hi := 800) g22 236 4 rfl
  have b28 := gi_b (lo := 0) (hi := 4) g22 236 6 rfl
  exact k h22 g22 F26 (show (h 236 4) ≤ (h22 236 4) by omega) (show (h22 236 4) ≤ (h 236 3) by omega) (show (h22 236 6) = 0 ∨ (h 236 4) + 1 ≤ (h22 236 4) by omega)
-- method 215: Model.goOn()V
set_option maxRecDepth 100000 in
set_option maxHeartbeats 100000000 in
theorem ct_215_p76_236_L2_0 {L : Nat} {xs : Nat → Int32} {d b c : Nat} {h : hp} {cr : Nat → Nat → Option Nat} {Q : hp_Q} (hcr : CR cr)  (g : GI h)   (pp0 : h 236 4 + 1 ≤ h 236 3) (pp1 : 97 ≤ h 237 (0 + (h 236 4).toNat)) (pp2 : h 237 (0 + (h 236 4).toNat) ≤ 122) (k : ∀ (h2 : hp) , GI h2 → FR [(236, 236, some (4, 4)), (236, 236, some (6, 6)), (236, 236, some (12, 12))] h h2 → (h 236 4 ≤ h2 236 4) → (h2 236 4 ≤ h 236 3) → (h2 236 6 = 0 ∨ h 236 4 + 1 ≤ h2 236 4) → Q (.inl none) (hp_w h2 cr) b c) : wp (md_xa (L, xs)) (d + 1) 215 (76, [(0, .ref 236), (2, vi 0)], [], hp_w h cr, b, c) Q := by
  have F0 : FR [(236, 236, some (4, 4)), (236, 236, some (6, 6)), (236, 236, some (12, 12))] h h := FR.refl
  have b1 := gi_b (lo := 0) (hi := 800) g 236 4 rfl
  have b2 := gi_b (lo := 0) (hi := 800) g 236 3 rfl
  obtain ⟨i3, ei3⟩ : ∃ q : Nat, (0 + h 236 4) = (q : Int) := ⟨(0 + h 236 4).toNat, by omega⟩
  have b4 := gi_b (lo := 0) (hi := 255) g 237 i3 rfl
  have e5 : h 237 (0 + (h 236 4).toNat) = h 237 i3 := by rw [show 0 + (h 236 4).toNat = i3 by omega]
  refine wi_aload_n (i := 0) (x := 236) (nx := 77) (r1 := 0) (r2 := 0) (r3 := 0) rfl rfl ?_
  refine wi_iload_n (i := 2) (e := 0) (nx := 78) (r1 := 0) (r2 := 0) (r3 := 0) rfl rfl ?_
  refine wr_V (k0 := 236) (rest := []) (as := [.ref 236, vi 0]) (nx := 81) (r1 := 216) (r2 := 1) (r3 := 11) rfl rfl rfl (of_decide_eq_true rfl) rfl rfl (by decide) rfl rfl (of_decide_eq_true rfl) (of_decide_eq_true rfl) ?_
  refine wi_aload_n (i := 0) (x := 236) (nx := 1) (r1 := 0) (r2 := 0) (r3 := 0) rfl rfl ?_
  refine wr_gi0 (k0 := 236) (x := h 236 4) (nx := 4) (r1 := 11) (r2 := 4) (r3 := 0) rfl rfl (by decide) rfl ⟨rfl, rfl⟩ rfl rfl ?_
  refine wi_iload_n (i := 1) (e := 0) (nx := 5) (r1 := 0) (r2 := 0) (r3 := 0) rfl rfl ?_
  refine wr_add (nx := 6) (r1 := 0) (r2 := 0) (r3 := 0) rfl (fun e6 (fe6 : e6 = (h 236 4) + 0) => ?_)
  refine wi_aload_n (i := 0) (x := 236) (nx := 7) (r1 := 0) (r2 := 0) (r3 := 0) rfl rfl ?_
  refine wr_gi0 (k0 := 236) (x := h 236 3) (nx := 10) (r1 := 11) (r2 := 3) (r3 := 0) rfl rfl (by decide) rfl ⟨rfl, rfl⟩ rfl rfl ?_
  refine wi_icmp (cd := .ge) (nx := 13) (r1 := 27) (r2 := 0) (r3 := 0) rfl (by omega) (by omega) (fun (q7 : (h 236 3) ≤ e6) => by exfalso; omega) (fun (q7 : ¬ ((h 236 3) ≤ e6)) => ?_)
  refine wi_aload_n (i := 0) (x := 236) (nx := 14) (r1 := 0) (r2 := 0) (r3 := 0) rfl rfl ?_
  refine wr_gr (k0 := 236) (x := 237) (nx := 17) (r1 := 11) (r2 := 1) (r3 := 0) rfl rfl (by decide) rfl ⟨rfl, rfl⟩ rfl ?_
  refine wi_aload_n (i := 0) (x := 236) (nx := 18) (r1 := 0) (r2 := 0) (r3 := 0) rfl rfl ?_
  refine wr_gi0 (k0 := 236) (x := h 236 4) (nx := 21) (r1 := 11) (r2 := 4) (r3 := 0) rfl rfl (by decide) rfl ⟨rfl, rfl⟩ rfl rfl ?_
  refine wi_iload_n (i := 1) (e := 0) (nx := 22) (r1 := 0) (r2 := 0) (r3 := 0) rfl rfl ?_
  refine wr_add (nx := 23) (r1 := 0) (r2 := 0) (r3 := 0) rfl (fun e8 (fe8 : e8 = (h 236 4) + 0) => ?_)
  refine wr_ia (k0 := 237) (a := e8) (f := i3) (x := h 237 i3) (nx := 24) (r1 := 0) (r2 := 0) (r3 := 0) rfl (by decide) rfl (by omega) (by omega) (by decide) rfl ?_
  refine wi_goto (nx := 27) (r1 := 28) (r2 := 0) (r3 := 0) rfl ?_
  refine wi_ireturn (nx := 29) (r1 := 0) (r2 := 0) (r3 := 0) rfl rfl ?_
  refine wk_i ?_
  refine wi_S (rest := []) (as := [vi (h 237 i3)]) (nx := 84) (r1 := 217) (r2 := 17) (r3 := 0) rfl rfl rfl (of_decide_eq_true rfl) rfl rfl (of_decide_eq_true rfl) (of_decide_eq_true rfl) ?_
  refine wi_iload_n (i := 0) (e := h 237 i3) (nx := 1) (r1 := 0) (r2 := 0) (r3 := 0) rfl rfl ?_
  refine wi_bipush (n := 97) (nx := 3) (r1 := 0) (r2 := 0) (r3 := 0) rfl (by decide) ?_
  refine wi_icmp (cd := .lt) (nx := 6) (r1 := 16) (r2 := 0) (r3 := 0) rfl (by omega) (by omega) (fun (q9 : (h 237 i3) < 97) => by exfalso; omega) (fun (q9 : ¬ ((h 237 i3) < 97)) => ?_)
  refine wi_iload_n (i := 0) (e := h 237 i3) (nx := 7) (r1 := 0) (r2 := 0) (r3 := 0) rfl rfl ?_
  refine wi_bipush (n := 122) (nx := 9) (r1 := 0) (r2 := 0) (r3 := 0) rfl (by decide) ?_
  refine wi_icmp (cd := .gt) (nx := 12) (r1 := 16) (r2 := 0) (r3 := 0) rfl (by omega) (by omega) (fun (q10 : 122 < (h 237 i3)) => by exfalso; omega) (fun (q10 : ¬ (122 < (h 237 i3))) => ?_)
  refine wi_iconst (n := 1) (nx := 13) (r1 := 0) (r2 := 0) (r3 := 0) rfl ?_
  refine wi_goto (nx := 16) (r1 := 17) (r2 := 0) (r3 := 0) rfl ?_
  refine wi_zreturn (nx := 18) (r1 := 0) (r2 := 0) (r3 := 0) rfl rfl (by omega) ?_
  refine wk_i ?_
  refine wi_if (cd := .eq) (nx := 87) (r1 := 121) (r2 := 0) (r3 := 0) rfl (by omega) (fun (q11 : 1 = 0) => by exfalso; omega) (fun (q11 : ¬ (1 = 0)) => ?_)
  refine wi_iload_n (i := 2) (e := 0) (nx := 88) (r1 := 0) (r2 := 0) (r3 := 0) rfl rfl ?_
  refine wi_bipush (n := 8) (nx := 90) (r1 := 0) (r2 := 0) (r3 := 0) rfl (by decide) ?_
  refine wi_icmp (cd := .ge) (nx := 93) (r1 := 115) (r2 := 0) (r3 := 0) rfl (by omega) (by omega) (fun (q12 : 8 ≤ 0) => by exfalso; omega) (fun (q12 : ¬ (8 ≤ 0)) => ?_)
  refine wi_aload_n (i := 0) (x := 236) (nx := 94) (r1 := 0) (r2 := 0) (r3 := 0) rfl rfl ?_
  refine wi_aload_n (i := 0) (x := 236) (nx := 95) (r1 := 0) (r2 := 0) (r3 := 0) rfl rfl ?_
  have b13 := gi_b (lo := -9223372036854775808) (hi := 9223372036854775807) g 236 12 rfl
  refine wr_gi1 (k0 := 236) (x := h 236 12) (nx := 98) (r1 := 11) (r2 := 12) (r3 := 0) rfl rfl (by decide) rfl ⟨rfl, rfl⟩ rfl rfl ?_
  refine wi_iconst (n := 5) (nx := 99) (r1 := 0) (r2 := 0) (r3 := 0) rfl ?_
  refine wr_lshlA (nx := 100) (r1 := 0) (r2 := 0) (r3 := 0) rfl (fun e14 (fe14 : -9223372036854775808 ≤ e14 ∧ e14 ≤ 9223372036854775807) => ?_)
  refine wi_aload_n (i := 0) (x := 236) (nx := 101) (r1 := 0) (r2 := 0) (r3 := 0) rfl rfl ?_
  refine wi_iload_n (i := 2) (e := 0) (nx := 102) (r1 := 0) (r2 := 0) (r3 := 0) rfl rfl ?_
  refine wr_V (k0 := 236) (rest := [vl e14, .ref 236]) (as := [.ref 236, vi 0]) (nx := 105) (r1 := 216) (r2 := 1) (r3 := 11) rfl rfl rfl (of_decide_eq_true rfl) rfl rfl (by decide) rfl rfl (of_decide_eq_true rfl) (of_decide_eq_true rfl) ?_
  refine wi_aload_n (i := 0) (x := 236) (nx := 1) (r1 := 0) (r2 := 0) (r3 := 0) rfl rfl ?_
  refine wr_gi0 (k0 := 236) (x := h 236 4) (nx := 4) (r1 := 11) (r2 := 4) (r3 := 0) rfl rfl (by decide) rfl ⟨rfl, rfl⟩ rfl rfl ?_
  refine wi_iload_n (i := 1) (e := 0) (nx := 5) (r1 := 0) (r2 := 0) (r3 := 0) rfl rfl ?_
  refine wr_add (nx := 6) (r1 := 0) (r2 := 0) (r3 := 0) rfl (fun e15 (fe15 : e15 = (h 236 4) + 0) => ?_)
  refine wi_aload_n (i := 0) (x := 236) (nx := 7) (r1 := 0) (r2 := 0) (r3 := 0) rfl rfl ?_
  refine wr_gi0 (k0 := 236) (x := h 236 3) (nx := 10) (r1 := 11) (r2 := 3) (r3 := 0) rfl rfl (by decide) rfl ⟨rfl, rfl⟩ rfl rfl ?_
  refine wi_icmp (cd := .ge) (nx := 13) (r1 := 27) (r2 := 0) (r3 := 0) rfl (by omega) (by omega) (fun (q16 : (h 236 3) ≤ e15) => by exfalso; omega) (fun (q16 : ¬ ((h 236 3) ≤ e15)) => ?_)
  refine wi_aload_n (i := 0) (x := 236) (nx := 14) (r1 := 0) (r2 := 0) (r3 := 0) rfl rfl ?_
  refine wr_gr (k0 := 236) (x := 237) (nx := 17) (r1 := 11) (r2 := 1) (r3 := 0) rfl rfl (by decide) rfl ⟨rfl, rfl⟩ rfl ?_
  refine wi_aload_n (i := 0) (x := 236) (nx := 18) (r1 := 0) (r2 := 0) (r3 := 0) rfl rfl ?_
  refine wr_gi0 (k0 := 236) (x := h 236 4) (nx := 21) (r1 := 11) (r2 := 4) (r3 := 0) rfl rfl (by decide) rfl ⟨rfl, rfl⟩ rfl rfl ?_
  refine wi_iload_n (i := 1) (e := 0) (nx := 22) (r1 := 0) (r2 := 0) (r3 := 0) rfl rfl ?_
  refine wr_add (nx := 23) (r1 := 0) (r2 := 0) (r3 := 0) rfl (fun e17 (fe17 : e17 = (h 236 4) + 0) => ?_)
  refine wr_ia (k0 := 237) (a := e17) (f := i3) (x := h 237 i3) (nx := 24) (r1 := 0) (r2 := 0) (r3 := 0) rfl (by decide) rfl (by omega) (by omega) (by decide) rfl ?_
  refine wi_goto (nx := 27) (r1 := 28) (r2 := 0) (r3 := 0) rfl ?_
  refine wi_ireturn (nx := 29) (r1 := 0) (r2 := 0) (r3 := 0) rfl rfl ?_
  refine wk_i ?_
  refine wi_bipush (n := 97) (nx := 107) (r1 := 0) (r2 := 0) (r3 := 0) rfl (by decide) ?_
  refine wr_sub (nx := 108) (r1 := 0) (r2 := 0) (r3 := 0) rfl (fun e18 (fe18 : e18 = (h 237 i3) - 97) => ?_)
  refine wi_iconst (n := 1) (nx := 109) (r1 := 0) (r2 := 0) (r3 := 0) rfl ?_
  refine wr_add (nx := 110) (r1 := 0) (r2 := 0) (r3 := 0) rfl (fun e19 (fe19 : e19 = e18 + 1) => ?_)
  refine wi_i2l (nx := 111) (r1 := 0) (r2 := 0) (r3 := 0) rfl (by omega) ?_
  refine wr_lorA (nx := 112) (r1 := 0) (r2 := 0) (r3 := 0) rfl (fun e20 (fe20 : -9223372036854775808 ≤ e20 ∧ e20 ≤ 9223372036854775807) => ?_)
  refine wr_pf1 (k0 := 236) (x := e20) (bl := -9223372036854775808) (bh := 9223372036854775807) (nx := 115) (r1 := 11) (r2 := 12) (r3 := 1) rfl (by decide) rfl ⟨rfl, rfl⟩ rfl rfl g rfl (by omega) (fun h21 g21 w21 u21 => ?_)
  have F22 := F0.then rfl u21
  refine wr_iincL (i := 2) (n := 1) (v := 0) (1) ([(2, vi 1), (0, .ref 236)]) (nx := 118) (r1 := 0) (r2 := 0) (r3 := 0) rfl rfl (by decide) rfl ?_
  refine wi_goto (nx := 121) (r1 := 76) (r2 := 0) (r3 := 0) rfl ?_
  have e25 : h21 236 4 = h 236 4 := (u21 236 4 rfl)
  have e26 : h21 236 3 = h 236 3 := (u21 236 3 rfl)
  refine wp.lo (lo := [(0, .ref 236), (2, vi 1)]) ⟨rfl, rfl, trivial⟩ rfl ?_
  refine wl_1 (fun x23 h24 => GI h24 ∧ FR [(236, 236, some (4, 4)), (236, 236, some (6, 6)), (236, 236, some (12, 12))] h h24 ∧ FR [(236, 236, some (12, 12))] h21 h24 ∧ ((1 ≤ x23 ∧ x23 ≤ 800) ∧ (x23 + (h24 236 4) ≤ (h24 236 3)))) (fun x23 h24 => ((h24 236 3) - (h24 236 4) - x23).toNat) (fun x23 h24 => (76, [(0, .ref 236), (2, vi x23)], [], hp_w h24 cr, b, c)) ?_ 1 h21 ⟨g21, F22, FR.refl, (show (1 ≤ 1 ∧ 1 ≤ 800) ∧ (1 + (h21 236 4) ≤ (h21 236 3)) by omega)⟩
  intro x23 h24 ⟨g24, F27, u24, f24⟩ I24
  have e28 : h24 236 3 = h 236 3 := ((u24 236 3 rfl).trans (u21 236 3 rfl))
  have e29 : h24 236 4 = h 236 4 := ((u24 236 4 rfl).trans (u21 236 4 rfl))
  refine wi_aload_n (i := 0) (x := 236) (nx := 77) (r1 := 0) (r2 := 0) (r3 := 0) rfl rfl ?_
  refine wi_iload_n (i := 2) (e := x23) (nx := 78) (r1 := 0) (r2 := 0) (r3 := 0) rfl rfl ?_
  refine wr_V (k0 := 236) (rest := []) (as := [.ref 236, vi x23]) (nx := 81) (r1 := 216) (r2 := 1) (r3 := 11) rfl rfl rfl (of_decide_eq_true rfl) rfl rfl (by decide) rfl rfl (of_decide_eq_true rfl) (of_decide_eq_true rfl) ?_
  refine wi_aload_n (i := 0) (x := 236) (nx := 1) (r1 := 0) (r2 := 0) (r3 := 0) rfl rfl ?_
  refine wr_gi0 (k0 := 236) (x := h 236 4) (nx := 4) (r1 := 11) (r2 := 4) (r3 := 0) rfl rfl (by decide) rfl ⟨rfl, rfl⟩ rfl ((u24 236 4 rfl).trans (u21 236 4 rfl)) ?_
  refine wi_iload_n (i := 1) (e := x23) (nx := 5) (r1 := 0) (r2 := 0) (r3 := 0) rfl rfl ?_
  refine wr_add (nx := 6) (r1 := 0) (r2 := 0) (r3 := 0) rfl (fun e30 (fe30 : e30 = (h 236 4) + x23) => ?_)
  refine wi_aload_n (i := 0) (x := 236) (nx := 7) (r1 := 0) (r2 := 0) (r3 := 0) rfl rfl ?_
  refine wr_gi0 (k0 := 236) (x := h 236 3) (nx := 10) (r1 := 11) (r2 := 3) (r3 := 0) rfl rfl (by decide) rfl ⟨rfl, rfl⟩ rfl ((u24 236 3 rfl).trans (u21 236 3 rfl)) ?_
  refine wi_icmp (cd := .ge) (nx := 13) (r1 := 27) (r2 := 0) (r3 := 0) rfl (by omega) (by omega) (fun (q31 : (h 236 3) ≤ e30) => ?_) (fun (q31 : ¬ ((h 236 3) ≤ e30)) => ?_)
  ·
    refine wi_iconst (n := (-1)) (nx := 28) (r1 := 0) (r2 := 0) (r3 := 0) rfl ?_
    refine wi_ireturn (nx := 29) (r1 := 0) (r2 := 0) (r3 := 0) rfl rfl ?_
    refine wk_i ?_
    refine wi_S (rest := []) (as := [vi (-1)]) (nx := 84) (r1 := 217) (r2 := 17) (r3 := 0) rfl rfl rfl (of_decide_eq_true rfl) rfl rfl (of_decide_eq_true rfl) (of_decide_eq_true rfl) ?_
    refine wi_iload_n (i := 0) (e := -1) (nx := 1) (r1 := 0) (r2 := 0) (r3 := 0) rfl rfl ?_
    refine wi_bipush (n := 97) (nx := 3) (r1 := 0) (r2 := 0) (r3 := 0) rfl (by decide) ?_
    refine wi_icmp (cd := .lt) (nx := 6) (r1 := 16) (r2 := 0) (r3 := 0) rfl (by omega) (by omega) (fun (q32 : (-1) < 97) => ?_) (fun (q32 : ¬ ((-1) < 97)) => by exfalso; omega)
    refine wi_iconst (n := 0) (nx := 17) (r1 := 0) (r2 := 0) (r3 := 0) rfl ?_
    refine wi_zreturn (nx := 18) (r1 := 0) (r2 := 0) (r3 := 0) rfl rfl (by omega) ?_
    refine wk_i ?_
    refine wi_if (cd := .eq) (nx := 87) (r1 := 121) (r2 := 0) (r3 := 0) rfl (by omega) (fun (q33 : 0 = 0) => ?_) (fun (q33 : ¬ (0 = 0)) => by exfalso; omega)
    refine wi_aload_n (i := 0) (x := 236) (nx := 122) (r1 := 0) (r2 := 0) (r3 := 0) rfl rfl ?_
    refine wi_iload_n (i := 2) (e := x23) (nx := 123) (r1 := 0) (r2 := 0) (r3 := 0) rfl rfl ?_
    refine wi_bipush (n := 8) (nx := 125) (r1 := 0) (r2 := 0) (r3 := 0) rfl (by decide) ?_
    refine wi_icmp (cd := .le) (nx := 128) (r1 := 132) (r2 := 0) (r3 := 0) rfl (by omega) (by omega) (fun (q34 : x23 ≤ 8) => ?_) (fun (q34 : ¬ (x23 ≤ 8)) => ?_)
    ·
      refine wi_iconst (n := 1) (nx := 133) (r1 := 0) (r2 := 0) (r3 := 0) rfl ?_
      refine wr_pf0 (k0 := 236) (x := 1) (bl := 0) (bh := 4) (nx := 136) (r1 := 11) (r2 := 6) (r3 := 0) rfl (by decide) rfl ⟨rfl, rfl⟩ rfl rfl g24 rfl (by omega) (fun h35 g35 w35 u35 => ?_)
      have F36 := F27.then rfl u35
      refine wi_goto (nx := 139) (r1 := 239) (r2 := 0) (r3 := 0) rfl ?_
      refine wi_aload_n (i := 0) (x := 236) (nx := 240) (r1 := 0) (r2 := 0) (r3 := 0) rfl rfl ?_
      refine wi_dup (nx := 241) (r1 := 0) (r2 := 0) (r3 := 0) rfl rfl ?_
      refine wr_gi0 (k0 := 236) (x := h 236 4) (nx := 244) (r1 := 11) (r2 := 4) (r3 := 0) rfl rfl (by decide) rfl ⟨rfl, rfl⟩ rfl ((u35 236 4 rfl).trans ((u24 236 4 rfl).trans (u21 236 4 rfl))) ?_
      refine wi_iload_n (i := 2) (e := x23) (nx := 245) (r1 := 0) (r2 := 0) (r3 := 0) rfl rfl ?_
      refine wr_add (nx := 246) (r1 := 0) (r2 := 0) (r3 := 0) rfl (fun e37 (fe37 : e37 = (h 236 4) + x23) => ?_)
      refine wr_pf0 (k0 := 236) (x := e37) (bl := 0) (bh := 800) (nx := 249) (r1 := 11) (r2 := 4) (r3 := 0) rfl (by decide) rfl ⟨rfl, rfl⟩ rfl rfl g35 rfl (by omega) (fun h38 g38 w38 u38 => ?_)
      have F39 := F36.then rfl u38
      refine wi_return (nx := 250) (r1 := 0) (r2 := 0) (r3 := 0) rfl rfl ?_
      have e40 : h38 236 4 = e37 := w38
      have e41 : h38 236 6 = 1 := ((u38 236 6 rfl).trans w35)
      exact k h38 g38 F39 (show (h 236 4) ≤ (h38 236 4) by omega) (show (h38 236 4) ≤ (h 236 3) by omega) (show (h38 236 6) = 0 ∨ (h 236 4) + 1 ≤ (h38 236 4) by omega)
    ·
      refine wi_iconst (n := 4) (nx := 129) (r1 := 0) (r2 := 0) (r3 := 0) rfl ?_
      refine wi_goto (nx := 132) (r1 := 133) (r2 := 0) (r3 := 0) rfl ?_
      refine wr_pf0 (k0 := 236) (x := 4) (bl := 0) (bh := 4) (nx := 136) (r1 := 11) (r2 := 6) (r3 := 0) rfl (by decide) rfl ⟨rfl, rfl⟩ rfl rfl g24 rfl (by omega) (fun h35 g35 w35 u35 => ?_)
      have F36 := F27.then rfl u35
      refine wi_goto (nx := 139) (r1 := 239) (r2 := 0) (r3 := 0) rfl ?_
      refine wi_aload_n (i := 0) (x := 236) (nx := 240) (r1 := 0) (r2 := 0) (r3 := 0) rfl rfl ?_
      refine wi_dup (nx := 241) (r1 := 0) (r2 := 0) (r3 := 0) rfl rfl ?_
      refine wr_gi0 (k0 := 236) (x := h 236 4) (nx := 244) (r1 := 11) (r2 := 4) (r3 := 0) rfl rfl (by decide) rfl ⟨rfl, rfl⟩ rfl ((u35 236 4 rfl).trans ((u24 236 4 rfl).trans (u21 236 4 rfl))) ?_
      refine wi_iload_n (i := 2) (e := x23) (nx := 245) (r1 := 0) (r2 := 0) (r3 := 0) rfl rfl ?_
      refine wr_add (nx := 246) (r1 := 0) (r2 := 0) (r3 := 0) rfl (fun e37 (fe37 : e37 = (h 236 4) + x23) => ?_)
      refine wr_pf0 (k0 := 236) (x := e37) (bl := 0) (bh := 800) (nx := 249) (r1 := 11) (r2 := 4) (r3 := 0) rfl (by decide) rfl ⟨rfl, rfl⟩ rfl rfl g35 rfl (by omega) (fun h38 g38 w38 u38 => ?_)
      have F39 := F36.then rfl u38
      refine wi_return (nx := 250) (r1 := 0) (r2 := 0) (r3 := 0) rfl rfl ?_
      have e40 : h38 236 4 = e37 := w38
      have e41 : h38 236 6 = 4 := ((u38 236 6 rfl).trans w35)
      exact k h38 g38 F39 (show (h 236 4) ≤ (h38 236 4) by omega) (show (h38 236 4) ≤ (h 236 3) by omega) (show (h38 236 6) = 0 ∨ (h 236 4) + 1 ≤ (h38 236 4) by omega)
  ·
    refine wi_aload_n (i := 0) (x := 236) (nx := 14) (r1 := 0) (r2 := 0) (r3 := 0) rfl rfl ?_
    refine wr_gr (k0 := 236) (x := 237) (nx := 17) (r1 := 11) (r2 := 1) (r3 := 0) rfl rfl (by decide) rfl ⟨rfl, rfl⟩ rfl ?_
    refine wi_aload_n (i := 0) (x := 236) (nx := 18) (r1 := 0) (r2 := 0) (r3 := 0) rfl rfl ?_
    refine wr_gi0 (k0 := 236) (x := h 236 4) (nx := 21) (r1 := 11) (r2 := 4) (r3 := 0) rfl rfl (by decide) rfl ⟨rfl, rfl⟩ rfl ((u24 236 4 rfl).trans (u21 236 4 rfl)) ?_
    refine wi_iload_n (i := 1) (e := x23) (nx := 22) (r1 := 0) (r2 := 0) (r3 := 0) rfl rfl ?_
    refine wr_add (nx := 23) (r1 := 0) (r2 := 0) (r3 := 0) rfl (fun e32 (fe32 : e32 = (h 236 4) + x23) => ?_)
    obtain ⟨i33, ei33⟩ : ∃ q : Nat, e32 = (q : Int) := ⟨(e32).toNat, by omega⟩
    have b34 := gi_b (lo := 0) (hi := 255) g 237 i33 rfl
    refine wr_ia (k0 := 237) (a := e32) (f := i33) (x := h 237 i33) (nx := 24) (r1 := 0) (r2 := 0) (r3 := 0) rfl (by decide) rfl (by omega) (by omega) (by decide) ((u24 237 i33 (fn_a (by omega) fn_0)).trans (u21 237 i33 (fn_a (by omega) fn_0))) ?_
    refine wi_goto (nx := 27) (r1 := 28) (r2 := 0) (r3 := 0) rfl ?_
    refine wi_ireturn (nx := 29) (r1 := 0) (r2 := 0) (r3 := 0) rfl rfl ?_
    refine wk_i ?_
    refine wi_S (rest := []) (as := [vi (h 237 i33)]) (nx := 84) (r1 := 217) (r2 := 17) (r3 := 0) rfl rfl rfl (of_decide_eq_true rfl) rfl rfl (of_decide_eq_true rfl) (of_decide_eq_true rfl) ?_
    refine wi_iload_n (i := 0) (e := h 237 i33) (nx := 1) (r1 := 0) (r2 := 0) (r3 := 0) rfl rfl ?_
    refine wi_bipush (n := 97) (nx := 3) (r1 := 0) (r2 := 0) (r3 := 0) rfl (by decide) ?_
    refine wi_icmp (cd := .lt) (nx := 6) (r1 := 16) (r2 := 0) (r3 := 0) rfl (by omega) (by omega) (fun (q35 : (h 237 i33) < 97) => ?_) (fun (q35 : ¬ ((h 237 i33) < 97)) => ?_)
    ·
      refine wi_iconst (n := 0) (nx := 17) (r1 := 0) (r2 := 0) (r3 := 0) rfl ?_
      refine wi_zreturn (nx := 18) (r1 := 0) (r2 := 0) (r3 := 0) rfl rfl (by omega) ?_
      refine wk_i ?_
      refine wi_if (cd := .eq) (nx := 87) (r1 := 121) (r2 := 0) (r3 := 0) rfl (by omega) (fun (q36 : 0 = 0) => ?_) (fun (q36 : ¬ (0 = 0)) => by exfalso; omega)
      refine wi_aload_n (i := 0) (x := 236) (nx := 122) (r1 := 0) (r2 := 0) (r3 := 0) rfl rfl ?_
      refine wi_iload_n (i := 2) (e := x23) (nx := 123) (r1 := 0) (r2 := 0) (r3 := 0) rfl rfl ?_
      refine wi_bipush (n := 8) (nx := 125) (r1 := 0) (r2 := 0) (r3 := 0) rfl (by decide) ?_
      refine wi_icmp (cd := .le) (nx := 128) (r1 := 132) (r2 := 0) (r3 := 0) rfl (by omega) (by omega) (fun (q37 : x23 ≤ 8) => ?_) (fun (q37 : ¬ (x23 ≤ 8)) => ?_)
      ·
        refine wi_iconst (n := 1) (nx := 133) (r1 := 0) (r2 := 0) (r3 := 0) rfl ?_
        refine wr_pf0 (k0 := 236) (x := 1) (bl := 0) (bh := 4) (nx := 136) (r1 := 11) (r2 := 6) (r3 := 0) rfl (by decide) rfl ⟨rfl, rfl⟩ rfl rfl g24 rfl (by omega) (fun h38 g38 w38 u38 => ?_)
        have F39 := F27.then rfl u38
        refine wi_goto (nx := 139) (r1 := 239) (r2 := 0) (r3 := 0) rfl ?_
        refine wi_aload_n (i := 0) (x := 236) (nx := 240) (r1 := 0) (r2 := 0) (r3 := 0) rfl rfl ?_
        refine wi_dup (nx := 241) (r1 := 0) (r2 := 0) (r3 := 0) rfl rfl ?_
        refine wr_gi0 (k0 := 236) (x := h 236 4) (nx := 244) (r1 := 11) (r2 := 4) (r3 := 0) rfl rfl (by decide) rfl ⟨rfl, rfl⟩ rfl ((u38 236 4 rfl).trans ((u24 236 4 rfl).trans (u21 236 4 rfl))) ?_
        refine wi_iload_n (i := 2) (e := x23) (nx := 245) (r1 := 0) (r2 := 0) (r3 := 0) rfl rfl ?_
        refine wr_add (nx := 246) (r1 := 0) (r2 := 0) (r3 := 0) rfl (fun e40 (fe40 : e40 = (h 236 4) + x23) => ?_)
        refine wr_pf0 (k0 := 236) (x := e40) (bl := 0) (bh := 800) (nx := 249) (r1 := 11) (r2 := 4) (r3 := 0) rfl (by decide) rfl ⟨rfl, rfl⟩ rfl rfl g38 rfl (by omega) (fun h41 g41 w41 u41 => ?_)
        have F42 := F39.then rfl u41
        refine wi_return (nx := 250) (r1 := 0) (r2 := 0) (r3 := 0) rfl rfl ?_
        have e43 : h41 236 4 = e40 := w41
        have e44 : h41 236 6 = 1 := ((u41 236 6 rfl).trans w38)
        exact k h41 g41 F42 (show (h 236 4) ≤ (h41 236 4) by omega) (show (h41 236 4) ≤ (h 236 3) by omega) (show (h41 236 6) = 0 ∨ (h 236 4) + 1 ≤ (h41 236 4) by omega)
      ·
        refine wi_iconst (n := 4) (nx := 129) (r1 := 0) (r2 := 0) (r3 := 0) rfl ?_
        refine wi_goto (nx := 132) (r1 := 133) (r2 := 0) (r3 := 0) rfl ?_
        refine wr_pf0 (k0 := 236) (x := 4) (bl := 0) (bh := 4) (nx := 136) (r1 := 11) (r2 := 6) (r3 := 0) rfl (by decide) rfl ⟨rfl, rfl⟩ rfl rfl g24 rfl (by omega) (fun h38 g38 w38 u38 => ?_)
        have F39 := F27.then rfl u38
        refine wi_goto (nx := 139) (r1 := 239) (r2 := 0) (r3 := 0) rfl ?_
        refine wi_aload_n (i := 0) (x := 236) (nx := 240) (r1 := 0) (r2 := 0) (r3 := 0) rfl rfl ?_
        refine wi_dup (nx := 241) (r1 := 0) (r2 := 0) (r3 := 0) rfl rfl ?_
        refine wr_gi0 (k0 := 236) (x := h 236 4) (nx := 244) (r1 := 11) (r2 := 4) (r3 := 0) rfl rfl (by decide) rfl ⟨rfl, rfl⟩ rfl ((u38 236 4 rfl).trans ((u24 236 4 rfl).trans (u21 236 4 rfl))) ?_
        refine wi_iload_n (i := 2) (e := x23) (nx := 245) (r1 := 0) (r2 := 0) (r3 := 0) rfl rfl ?_
        refine wr_add (nx := 246) (r1 := 0) (r2 := 0) (r3 := 0) rfl (fun e40 (fe40 : e40 = (h 236 4) + x23) => ?_)
        refine wr_pf0 (k0 := 236) (x := e40) (bl := 0) (bh := 800) (nx := 249) (r1 := 11) (r2 := 4) (r3 := 0) rfl (by decide) rfl ⟨rfl, rfl⟩ rfl rfl g38 rfl (by omega) (fun h41 g41 w41 u41 => ?_)
        have F42 := F39.then rfl u41
        refine wi_return (nx := 250) (r1 := 0) (r2 := 0) (r3 := 0) rfl rfl ?_
        have e43 : h41 236 4 = e40 := w41
        have e44 : h41 236 6 = 4 := ((u41 236 6 rfl).trans w38)
        exact k h41 g41 F42 (show (h 236 4) ≤ (h41 236 4) by omega) (show (h41 236 4) ≤ (h 236 3) by omega) (show (h41 236 6) = 0 ∨ (h 236 4) + 1 ≤ (h41 236 4) by omega)
    ·
      refine wi_iload_n (i := 0) (e := h 237 i33) (nx := 7) (r1 := 0) (r2 := 0) (r3 := 0) rfl rfl ?_
      refine wi_bipush (n := 122) (nx := 9) (r1 := 0) (r2 := 0) (r3 := 0) rfl (by decide) ?_
      refine wi_icmp (cd := .gt) (nx := 12) (r1 := 16) (r2 := 0) (r3 := 0) rfl (by omega) (by omega) (fun (q36 : 122 < (h 237 i33)) => ?_) (fun (q36 : ¬ (122 < (h 237 i33))) => ?_)
      ·
        refine wi_iconst (n := 0) (nx := 17) (r1 := 0) (r2 := 0) (r3 := 0) rfl ?_
        refine wi_zreturn (nx := 18) (r1 := 0) (r2 := 0) (r3 := 0) rfl rfl (by omega) ?_
        refine wk_i ?_
        refine wi_if (cd := .eq) (nx := 87) (r1 := 121) (r2 := 0) (r3 := 0) rfl (by omega) (fun (q37 : 0 = 0) => ?_) (fun (q37 : ¬ (0 = 0)) => by exfalso; omega)
        refine wi_aload_n (i := 0) (x := 236) (nx := 122) (r1 := 0) (r2 := 0) (r3 := 0) rfl rfl ?_
        refine wi_iload_n (i := 2) (e := x23) (nx := 123) (r1 := 0) (r2 := 0) (r3 := 0) rfl rfl ?_
        refine wi_bipush (n := 8) (nx := 125) (r1 := 0) (r2 := 0) (r3 := 0) rfl (by decide) ?_
        refine wi_icmp (cd := .le) (nx := 128) (r1 := 132) (r2 := 0) (r3 := 0) rfl (by omega) (by omega) (fun (q38 : x23 ≤ 8) => ?_) (fun (q38 : ¬ (x23 ≤ 8)) => ?_)
        ·
          refine wi_iconst (n := 1) (nx := 133) (r1 := 0) (r2 := 0) (r3 := 0) rfl ?_
          refine wr_pf0 (k0 := 236) (x := 1) (bl := 0) (bh := 4) (nx := 136) (r1 := 11) (r2 := 6) (r3 := 0) rfl (by decide) rfl ⟨rfl, rfl⟩ rfl rfl g24 rfl (by omega) (fun h39 g39 w39 u39 => ?_)
          have F40 := F27.then rfl u39
          refine wi_goto (nx := 139) (r1 := 239) (r2 := 0) (r3 := 0) rfl ?_
          refine wi_aload_n (i := 0) (x := 236) (nx := 240) (r1 := 0) (r2 := 0) (r3 := 0) rfl rfl ?_
          refine wi_dup (nx := 241) (r1 := 0) (r2 := 0) (r3 := 0) rfl rfl ?_
          refine wr_gi0 (k0 := 236) (x := h 236 4) (nx := 244) (r1 := 11) (r2 := 4) (r3 := 0) rfl rfl (by decide) rfl ⟨rfl, rfl⟩ rfl ((u39 236 4 rfl).trans ((u24 236 4 rfl).trans (u21 236 4 rfl))) ?_
          refine wi_iload_n (i := 2) (e := x23) (nx := 245) (r1 := 0) (r2 := 0) (r3 := 0) rfl rfl ?_
          refine wr_add (nx := 246) (r1 := 0) (r2 := 0) (r3 := 0) rfl (fun e41 (fe41 : e41 = (h 236 4) + x23) => ?_)
          refine wr_pf0 (k0 := 236) (x := e41) (bl := 0) (bh := 800) (nx := 249) (r1 := 11) (r2 := 4) (r3 := 0) rfl (by decide) rfl ⟨rfl, rfl⟩ rfl rfl g39 rfl (by omega) (fun h42 g42 w42 u42 => ?_)
          have F43 := F40.then rfl u42
          refine wi_return (nx := 250) (r1 := 0) (r2 := 0) (r3 := 0) rfl rfl ?_
          have e44 : h42 236 4 = e41 := w42
          have e45 : h42 236 6 = 1 := ((u42 236 6 rfl).trans w39)
          exact k h42 g42 F43 (show (h 236 4) ≤ (h42 236 4) by omega) (show (h42 236 4) ≤ (h 236 3) by omega) (show (h42 236 6) = 0 ∨ (h 236 4) + 1 ≤ (h42 236 4) by omega)
        ·
          refine wi_iconst (n := 4) (nx := 129) (r1 := 0) (r2 := 0) (r3 := 0) rfl ?_
          refine wi_goto (nx := 132) (r1 := 133) (r2 := 0) (r3 := 0) rfl ?_
          refine wr_pf0 (k0 := 236) (x := 4) (bl := 0) (bh := 4) (nx := 136) (r1 := 11) (r2 := 6) (r3 := 0) rfl (by decide) rfl ⟨rfl, rfl⟩ rfl rfl g24 rfl (by omega) (fun h39 g39 w39 u39 => ?_)
          have F40 := F27.then rfl u39
          refine wi_goto (nx := 139) (r1 := 239) (r2 := 0) (r3 := 0) rfl ?_
          refine wi_aload_n (i := 0) (x := 236) (nx := 240) (r1 := 0) (r2 := 0) (r3 := 0) rfl rfl ?_
          refine wi_dup (nx := 241) (r1 := 0) (r2 := 0) (r3 := 0) rfl rfl ?_
          refine wr_gi0 (k0 := 236) (x := h 236 4) (nx := 244) (r1 := 11) (r2 := 4) (r3 := 0) rfl rfl (by decide) rfl ⟨rfl, rfl⟩ rfl ((u39 236 4 rfl).trans ((u24 236 4 rfl).trans (u21 236 4 rfl))) ?_
          refine wi_iload_n (i := 2) (e := x23) (nx := 245) (r1 := 0) (r2 := 0) (r3 := 0) rfl rfl ?_
          refine wr_add (nx := 246) (r1 := 0) (r2 := 0) (r3 := 0) rfl (fun e41 (fe41 : e41 = (h 236 4) + x23) => ?_)
          refine wr_pf0 (k0 := 236) (x := e41) (bl := 0) (bh := 800) (nx := 249) (r1 := 11) (r2 := 4) (r3 := 0) rfl (by decide) rfl ⟨rfl, rfl⟩ rfl rfl g39 rfl (by omega) (fun h42 g42 w42 u42 => ?_)
          have F43 := F40.then rfl u42
          refine wi_return (nx := 250) (r1 := 0) (r2 := 0) (r3 := 0) rfl rfl ?_
          have e44 : h42 236 4 = e41 := w42
          have e45 : h42 236 6 = 4 := ((u42 236 6 rfl).trans w39)
          exact k h42 g42 F43 (show (h 236 4) ≤ (h42 236 4) by omega) (show (h42 236 4) ≤ (h 236 3) by omega) (show (h42 236 6) = 0 ∨ (h 236 4) + 1 ≤ (h42 236 4) by omega)
      ·
        refine wi_iconst (n := 1) (nx := 13) (r1 := 0) (r2 := 0) (r3 := 0) rfl ?_
        refine wi_goto (nx := 16) (r1 := 17) (r2 := 0) (r3 := 0) rfl ?_
        refine wi_zreturn (nx := 18) (r1 := 0) (r2 := 0) (r3 := 0) rfl rfl (by omega) ?_
        refine wk_i ?_
        refine wi_if (cd := .eq) (nx := 87) (r1 := 121) (r2 := 0) (r3 := 0) rfl (by omega) (fun (q37 : 1 = 0) => by exfalso; omega) (fun (q37 : ¬ (1 = 0)) => ?_)
        refine wi_iload_n (i := 2) (e := x23) (nx := 88) (r1 := 0) (r2 := 0) (r3 := 0) rfl rfl ?_
        refine wi_bipush (n := 8) (nx := 90) (r1 := 0) (r2 := 0) (r3 := 0) rfl (by decide) ?_
        refine wi_icmp (cd := .ge) (nx := 93) (r1 := 115) (r2 := 0) (r3 := 0) rfl (by omega) (by omega) (fun (q38 : 8 ≤ x23) => ?_) (fun (q38 : ¬ (8 ≤ x23)) => ?_)
        ·
          refine wr_iinc (i := 2) (n := 1) (v := x23) (fun e39 => [(2, vi e39), (0, .ref 236)]) (nx := 118) (r1 := 0) (r2 := 0) (r3 := 0) rfl rfl (fun _ => rfl) (fun e39 (fe39 : e39 = x23 + 1) => ?_)
          refine wi_goto (nx := 121) (r1 := 76) (r2 := 0) (r3 := 0) rfl ?_
          refine wp.lo (lo := [(0, .ref 236), (2, vi e39)]) ⟨rfl, rfl, trivial⟩ rfl ?_
          exact I24 e39 h24 ⟨g24, F27, u24, (show (1 ≤ e39 ∧ e39 ≤ 800) ∧ (e39 + (h24 236 4) ≤ (h24 236 3)) by omega)⟩ (show ((h24 236 3) - (h24 236 4) - e39).toNat < ((h24 236 3) - (h24 236 4) - x23).toNat by omega)
        ·
          refine wi_aload_n (i := 0) (x := 236) (nx := 94) (r1 := 0) (r2 := 0) (r3 := 0) rfl rfl ?_
          refine wi_aload_n (i := 0) (x := 236) (nx := 95) (r1 := 0) (r2 := 0) (r3 := 0) rfl rfl ?_
          have b39 := gi_b (lo := -9223372036854775808) (hi := 9223372036854775807) g24 236 12 rfl
          refine wr_gi1 (k0 := 236) (x := h24 236 12) (nx := 98) (r1 := 11) (r2 := 12) (r3 := 0) rfl rfl (by decide) rfl ⟨rfl, rfl⟩ rfl rfl ?_
          refine wi_iconst (n := 5) (nx := 99) (r1 := 0) (r2 := 0) (r3 := 0) rfl ?_
          refine wr_lshlA (nx := 100) (r1 := 0) (r2 := 0) (r3 := 0) rfl (fun e40 (fe40 : -9223372036854775808 ≤ e40 ∧ e40 ≤ 9223372036854775807) => ?_)
          refine wi_aload_n (i := 0) (x := 236) (nx := 101) (r1 := 0) (r2 := 0) (r3 := 0) rfl rfl ?_
          refine wi_iload_n (i := 2) (e := x23) (nx := 102) (r1 := 0) (r2 := 0) (r3 := 0) rfl rfl ?_
          refine wr_V (k0 := 236) (rest := [vl e40, .ref 236]) (as := [.ref 236, vi x23]) (nx := 105) (r1 := 216) (r2 := 1) (r3 := 11) rfl rfl rfl (of_decide_eq_true rfl) rfl rfl (by decide) rfl rfl (of_decide_eq_true rfl) (of_decide_eq_true rfl) ?_
          refine wi_aload_n (i := 0) (x := 236) (nx := 1) (r1 := 0) (r2 := 0) (r3 := 0) rfl rfl ?_
          refine wr_gi0 (k0 := 236) (x := h 236 4) (nx := 4) (r1 := 11) (r2 := 4) (r3 := 0) rfl rfl (by decide) rfl ⟨rfl, rfl⟩ rfl ((u24 236 4 rfl).trans (u21 236 4 rfl)) ?_
          refine wi_iload_n (i := 1) (e := x23) (nx := 5) (r1 := 0) (r2 := 0) (r3 := 0) rfl rfl ?_
          refine wr_add (nx := 6) (r1 := 0) (r2 := 0) (r3 := 0) rfl (fun e41 (fe41 : e41 = (h 236 4) + x23) => ?_)
          refine wi_aload_n (i := 0) (x := 236) (nx := 7) (r1 := 0) (r2 := 0) (r3 := 0) rfl rfl ?_
          refine wr_gi0 (k0 := 236) (x := h 236 3) (nx := 10) (r1 := 11) (r2 := 3) (r3 := 0) rfl rfl (by decide) rfl ⟨rfl, rfl⟩ rfl ((u24 236 3 rfl).trans (u21 236 3 rfl)) ?_
          refine wi_icmp (cd := .ge) (nx := 13) (r1 := 27) (r2 := 0) (r3 := 0) rfl (by omega) (by omega) (fun (q42 : (h 236 3) ≤ e41) => by exfalso; omega) (fun (q42 : ¬ ((h 236 3) ≤ e41)) => ?_)
          refine wi_aload_n (i := 0) (x := 236) (nx := 14) (r1 := 0) (r2 := 0) (r3 := 0) rfl rfl ?_
          refine wr_gr (k0 := 236) (x := 237) (nx := 17) (r1 := 11) (r2 := 1) (r3 := 0) rfl rfl (by decide) rfl ⟨rfl, rfl⟩ rfl ?_
          refine wi_aload_n (i := 0) (x := 236) (nx := 18) (r1 := 0) (r2 := 0) (r3 := 0) rfl rfl ?_
          refine wr_gi0 (k0 := 236) (x := h 236 4) (nx := 21) (r1 := 11) (r2 := 4) (r3 := 0) rfl rfl (by decide) rfl ⟨rfl, rfl⟩ rfl ((u24 236 4 rfl).trans (u21 236 4 rfl)) ?_
          refine wi_iload_n (i := 1) (e := x23) (nx := 22) (r1 := 0) (r2 := 0) (r3 := 0) rfl rfl ?_
          refine wr_add (nx := 23) (r1 := 0) (r2 := 0) (r3 := 0) rfl (fun e43 (fe43 : e43 = (h 236 4) + x23) => ?_)
          refine wr_ia (k0 := 237) (a := e43) (f := i33) (x := h 237 i33) (nx := 24) (r1 := 0) (r2 := 0) (r3 := 0) rfl (by decide) rfl (by omega) (by omega) (by decide) ((u24 237 i33 (fn_a (by omega) fn_0)).trans (u21 237 i33 (fn_a (by omega) fn_0))) ?_
          refine wi_goto (nx := 27) (r1 := 28) (r2 := 0) (r3 := 0) rfl ?_
          refine wi_ireturn (nx := 29) (r1 := 0) (r2 := 0) (r3 := 0) rfl rfl ?_
          refine wk_i ?_
          refine wi_bipush (n := 97) (nx := 107) (r1 := 0) (r2 := 0) (r3 := 0) rfl (by decide) ?_
          refine wr_sub (nx := 108) (r1 := 0) (r2 := 0) (r3 := 0) rfl (fun e44 (fe44 : e44 = (h 237 i33) - 97) => ?_)
          refine wi_iconst (n := 1) (nx := 109) (r1 := 0) (r2 := 0) (r3 := 0) rfl ?_
          refine wr_add (nx := 110) (r1 := 0) (r2 := 0) (r3 := 0) rfl (fun e45 (fe45 : e45 = e44 + 1) => ?_)
          refine wi_i2l (nx := 111) (r1 := 0) (r2 := 0) (r3 := 0) rfl (by omega) ?_
          refine wr_lorA (nx := 112) (r1 := 0) (r2 := 0) (r3 := 0) rfl (fun e46 (fe46 : -9223372036854775808 ≤ e46 ∧ e46 ≤ 9223372036854775807) => ?_)
          refine wr_pf1 (k0 := 236) (x := e46) (bl := -9223372036854775808) (bh := 9223372036854775807) (nx := 115) (r1 := 11) (r2 := 12) (r3 := 1) rfl (by decide) rfl ⟨rfl, rfl⟩ rfl rfl g24 rfl (by omega) (fun h47 g47 w47 u47 => ?_)
          have F48 := F27.then rfl u47
          have F49 := u24.then rfl u47
          refine wr_iinc (i := 2) (n := 1) (v := x23) (fun e50 => [(2, vi e50), (0, .ref 236)]) (nx := 118) (r1 := 0) (r2 := 0) (r3 := 0) rfl rfl (fun _ => rfl) (fun e50 (fe50 : e50 = x23 + 1) => ?_)
          refine wi_goto (nx := 121) (r1 := 76) (r2 := 0) (r3 := 0) rfl ?_
          have e51 : h47 236 4 = h 236 4 := ((u47 236 4 rfl).trans ((u24 236 4 rfl).trans (u21 236 4 rfl)))
          have e52 : h47 236 3 = h 236 3 := ((u47 236 3 rfl).trans ((u24 236 3 rfl).trans (u21 236 3 rfl)))
          refine wp.lo (lo := [(0, .ref 236), (2, vi e50)]) ⟨rfl, rfl, trivial⟩ rfl ?_
          exact I24 e50 h47 ⟨g47, F48, F49, (show (1 ≤ e50 ∧ e50 ≤ 800) ∧ (e50 + (h47 236 4) ≤ (h47 236 3)) by omega)⟩ (show ((h47 236 3) - (h47 236 4) - e50).toNat < ((h24 236 3) - (h24 236 4) - x23).toNat by omega)
-- method 215: Model.goOn()V
set_option maxRecDepth 100000 in
set_option maxHeartbeats 100000000 in
theorem ct_215_p33_236 {L : Nat} {xs : Nat → Int32} {d b c : Nat} {h : hp} {cr : Nat → Nat → Option Nat} {Q : hp_Q} (hcr : CR cr)  (g : GI h)   (pp0 : h 236 4 ≤ h 236 3) (k : ∀ (h2 : hp) , GI h2 → FR [(236, 236, some (4, 4)), (236, 236, some (5, 5)), (236, 236, some (6, 6)), (236, 236, some (7, 7)), (236, 236, some (12, 12))] h h2 → (h 236 4 ≤ h2 236 4) → (h2 236 4 ≤ h 236 3) → (h2 236 6 = 0 ∨ h 236 4 + 1 ≤ h2 236 4) → Q (.inl none) (hp_w h2 cr) b c) : wp (md_xa (L, xs)) (d + 1) 215 (33, [(0, .ref 236)], [], hp_w h cr, b, c) Q := by
  have F0 : FR [(236, 236, some (4, 4)), (236, 236, some (5, 5)), (236, 236, some (6, 6)), (236, 236, some (7, 7)), (236, 236, some (12, 12))] h h := FR.refl
  have b1 := gi_b (lo := 0) (hi := 800) g 236 4 rfl
  have b2 := gi_b (lo := 0) (hi := 800) g 236 3 rfl
  refine wi_aload_n (i := 0) (x := 236) (nx := 34) (r1 := 0) (r2 := 0) (r3 := 0) rfl rfl ?_
  refine wi_aload_n (i := 0) (x := 236) (nx := 35) (r1 := 0) (r2 := 0) (r3 := 0) rfl rfl ?_
  refine wr_gi0 (k0 := 236) (x := h 236 4) (nx := 38) (r1 := 11) (r2 := 4) (r3 := 0) rfl rfl (by decide) rfl ⟨rfl, rfl⟩ rfl rfl ?_
  refine wr_pf0 (k0 := 236) (x := h 236 4) (bl := 0) (bh := 800) (nx := 41) (r1 := 11) (r2 := 5) (r3 := 0) rfl (by decide) rfl ⟨rfl, rfl⟩ rfl rfl g rfl (by omega) (fun h3 g3 w3 u3 => ?_)
  have F4 := F0.then rfl u3
  refine wi_aload_n (i := 0) (x := 236) (nx := 42) (r1 := 0) (r2 := 0) (r3 := 0) rfl rfl ?_
  refine wi_lconst (n := 0) (e := 0) (nx := 43) (r1 := 0) (r2 := 0) (r3 := 0) rfl (by decide) ?_
  refine wr_pf1 (k0 := 236) (x := 0) (bl := -9223372036854775808) (bh := 9223372036854775807) (nx := 46) (r1 := 11) (r2 := 12) (r3 := 1) rfl (by decide) rfl ⟨rfl, rfl⟩ rfl rfl g3 rfl (by omega) (fun h5 g5 w5 u5 => ?_)
  have F6 := F4.then rfl u5
  refine wi_aload_n (i := 0) (x := 236) (nx := 47) (r1 := 0) (r2 := 0) (r3 := 0) rfl rfl ?_
  refine wi_iconst (n := 0) (nx := 48) (r1 := 0) (r2 := 0) (r3 := 0) rfl ?_
  refine wr_pf0 (k0 := 236) (x := 0) (bl := 0) (bh := 999) (nx := 51) (r1 := 11) (r2 := 7) (r3 := 0) rfl (by decide) rfl ⟨rfl, rfl⟩ rfl rfl g5 rfl (by omega) (fun h7 g7 w7 u7 => ?_)
  have F8 := F6.then rfl u7
  refine wi_aload_n (i := 0) (x := 236) (nx := 52) (r1 := 0) (r2 := 0) (r3 := 0) rfl rfl ?_
  refine wi_iconst (n := 0) (nx := 53) (r1 := 0) (r2 := 0) (r3 := 0) rfl ?_
  refine wr_V (k0 := 236) (rest := []) (as := [.ref 236, vi 0]) (nx := 56) (r1 := 216) (r2 := 1) (r3 := 11) rfl rfl rfl (of_decide_eq_true rfl) rfl rfl (by decide) rfl rfl (of_decide_eq_true rfl) (of_decide_eq_true rfl) ?_
  refine wi_aload_n (i := 0) (x := 236) (nx := 1) (r1 := 0) (r2 := 0) (r3 := 0) rfl rfl ?_
  refine wr_gi0 (k0 := 236) (x := h 236 4) (nx := 4) (r1 := 11) (r2 := 4) (r3 := 0) rfl rfl (by decide) rfl ⟨rfl, rfl⟩ rfl ((u7 236 4 rfl).trans ((u5 236 4 rfl).trans (u3 236 4 rfl))) ?_
  refine wi_iload_n (i := 1) (e := 0) (nx := 5) (r1 := 0) (r2 := 0) (r3 := 0) rfl rfl ?_
  refine wr_add (nx := 6) (r1 := 0) (r2 := 0) (r3 := 0) rfl (fun e9 (fe9 : e9 = (h 236 4) + 0) => ?_)
  refine wi_aload_n (i := 0) (x := 236) (nx := 7) (r1 := 0) (r2 := 0) (r3 := 0) rfl rfl ?_
  refine wr_gi0 (k0 := 236) (x := h 236 3) (nx := 10) (r1 := 11) (r2 := 3) (r3 := 0) rfl rfl (by decide) rfl ⟨rfl, rfl⟩ rfl ((u7 236 3 rfl).trans ((u5 236 3 rfl).trans (u3 236 3 rfl))) ?_
  refine wi_icmp (cd := .ge) (nx := 13) (r1 := 27) (r2 := 0) (r3 := 0) rfl (by omega) (by omega) (fun (q10 : (h 236 3) ≤ e9) => ?_) (fun (q10 : ¬ ((h 236 3) ≤ e9)) => ?_)
  ·
    refine wi_iconst (n := (-1)) (nx := 28) (r1 := 0) (r2 := 0) (r3 := 0) rfl ?_
    refine wi_ireturn (nx := 29) (r1 := 0) (r2 := 0) (r3 := 0) rfl rfl ?_
    refine wk_i ?_
    refine wi_istore_n (i := 1) (e := -1) (lo2 := [(1, vi (-1)), (0, .ref 236)]) (nx := 57) (r1 := 0) (r2 := 0) (r3 := 0) rfl rfl ?_
    refine wi_iconst (n := 0) (nx := 58) (r1 := 0) (r2 := 0) (r3 := 0) rfl ?_
    refine wi_istore_n (i := 2) (e := 0) (lo2 := [(2, vi 0), (1, vi (-1)), (0, .ref 236)]) (nx := 59) (r1 := 0) (r2 := 0) (r3 := 0) rfl rfl ?_
    refine wi_iload_n (i := 1) (e := -1) (nx := 60) (r1 := 0) (r2 := 0) (r3 := 0) rfl rfl ?_
    refine wi_if (cd := .ge) (nx := 63) (r1 := 69) (r2 := 0) (r3 := 0) rfl (by omega) (fun (q11 : 0 ≤ (-1)) => by exfalso; omega) (fun (q11 : ¬ (0 ≤ (-1))) => ?_)
    refine wi_aload_n (i := 0) (x := 236) (nx := 64) (r1 := 0) (r2 := 0) (r3 := 0) rfl rfl ?_
    refine wi_iconst (n := 0) (nx := 65) (r1 := 0) (r2 := 0) (r3 := 0) rfl ?_
    refine wr_pf0 (k0 := 236) (x := 0) (bl := 0) (bh := 4) (nx := 68) (r1 := 11) (r2 := 6) (r3 := 0) rfl (by decide) rfl ⟨rfl, rfl⟩ rfl rfl g7 rfl (by omega) (fun h12 g12 w12 u12 => ?_)
    have F13 := F8.then rfl u12
    refine wi_return (nx := 69) (r1 := 0) (r2 := 0) (r3 := 0) rfl rfl ?_
    have e14 : h12 236 4 = h 236 4 := ((u12 236 4 rfl).trans ((u7 236 4 rfl).trans ((u5 236 4 rfl).trans (u3 236 4 rfl))))
    have e15 : h12 236 6 = 0 := w12
    exact k h12 g12 F13 (show (h 236 4) ≤ (h12 236 4) by omega) (show (h12 236 4) ≤ (h 236 3) by omega) (show (h12 236 6) = 0 ∨ (h 236 4) + 1 ≤ (h12 236 4) by omega)
  ·
    refine wi_aload_n (i := 0) (x := 236) (nx := 14) (r1 := 0) (r2 := 0) (r3 := 0) rfl rfl ?_
    refine wr_gr (k0 := 236) (x := 237) (nx := 17) (r1 := 11) (r2 := 1) (r3 := 0) rfl rfl (by decide) rfl ⟨rfl, rfl⟩ rfl ?_
    refine wi_aload_n (i := 0) (x := 236) (nx := 18) (r1 := 0) (r2 := 0) (r3 := 0) rfl rfl ?_
    refine wr_gi0 (k0 := 236) (x := h 236 4) (nx := 21) (r1 := 11) (r2 := 4) (r3 := 0) rfl rfl (by decide) rfl ⟨rfl, rfl⟩ rfl ((u7 236 4 rfl).trans ((u5 236 4 rfl).trans (u3 236 4 rfl))) ?_
    refine wi_iload_n (i := 1) (e := 0) (nx := 22) (r1 := 0) (r2 := 0) (r3 := 0) rfl rfl ?_
    refine wr_add (nx := 23) (r1 := 0) (r2 := 0) (r3 := 0) rfl (fun e11 (fe11 : e11 = (h 236 4) + 0) => ?_)
    obtain ⟨i12, ei12⟩ : ∃ q : Nat, e11 = (q : Int) := ⟨(e11).toNat, by omega⟩
    have b13 := gi_b (lo := 0) (hi := 255) g 237 i12 rfl
    refine wr_ia (k0 := 237) (a := e11) (f := i12) (x := h 237 i12) (nx := 24) (r1 := 0) (r2 := 0) (r3 := 0) rfl (by decide) rfl (by omega) (by omega) (by decide) ((u7 237 i12 (fn_a (by omega) fn_0)).trans ((u5 237 i12 (fn_a (by omega) fn_0)).trans (u3 237 i12 (fn_a (by omega) fn_0)))) ?_
    refine wi_goto (nx := 27) (r1 := 28) (r2 := 0) (r3 := 0) rfl ?_
    refine wi_ireturn (nx := 29) (r1 := 0) (r2 := 0) (r3 := 0) rfl rfl ?_
    refine wk_i ?_
    refine wi_istore_n (i := 1) (e := h 237 i12) (lo2 := [(1, vi (h 237 i12)), (0, .ref 236)]) (nx := 57) (r1 := 0) (r2 := 0) (r3 := 0) rfl rfl ?_
    refine wi_iconst (n := 0) (nx := 58) (r1 := 0) (r2 := 0) (r3 := 0) rfl ?_
    refine wi_istore_n (i := 2) (e := 0) (lo2 := [(2, vi 0), (1, vi (h 237 i12)), (0, .ref 236)]) (nx := 59) (r1 := 0) (r2 := 0) (r3 := 0) rfl rfl ?_
    refine wi_iload_n (i := 1) (e := h 237 i12) (nx := 60) (r1 := 0) (r2 := 0) (r3 := 0) rfl rfl ?_
    refine wi_if (cd := .ge) (nx := 63) (r1 := 69) (r2 := 0) (r3 := 0) rfl (by omega) (fun (q14 : 0 ≤ (h 237 i12)) => ?_) (fun (q14 : ¬ (0 ≤ (h 237 i12))) => by exfalso; omega)
    refine wi_iload_n (i := 1) (e := h 237 i12) (nx := 70) (r1 := 0) (r2 := 0) (r3 := 0) rfl rfl ?_
    refine wi_S (rest := []) (as := [vi (h 237 i12)]) (nx := 73) (r1 := 217) (r2 := 17) (r3 := 0) rfl rfl rfl (of_decide_eq_true rfl) rfl rfl (of_decide_eq_true rfl) (of_decide_eq_true rfl) ?_
    refine wi_iload_n (i := 0) (e := h 237 i12) (nx := 1) (r1 := 0) (r2 := 0) (r3 := 0) rfl rfl ?_
    refine wi_bipush (n := 97) (nx := 3) (r1 := 0) (r2 := 0) (r3 := 0) rfl (by decide) ?_
    refine wi_icmp (cd := .lt) (nx := 6) (r1 := 16) (r2 := 0) (r3 := 0) rfl (by omega) (by omega) (fun (q15 : (h 237 i12) < 97) => ?_) (fun (q15 : ¬ ((h 237 i12) < 97)) => ?_)
    ·
      refine wi_iconst (n := 0) (nx := 17) (r1 := 0) (r2 := 0) (r3 := 0) rfl ?_
      refine wi_zreturn (nx := 18) (r1 := 0) (r2 := 0) (r3 := 0) rfl rfl (by omega) ?_
      refine wk_i ?_
      refine wi_if (cd := .eq) (nx := 76) (r1 := 139) (r2 := 0) (r3 := 0) rfl (by omega) (fun (q16 : 0 = 0) => ?_) (fun (q16 : ¬ (0 = 0)) => by exfalso; omega)
      refine wi_iload_n (i := 1) (e := h 237 i12) (nx := 140) (r1 := 0) (r2 := 0) (r3 := 0) rfl rfl ?_
      refine wi_S (rest := []) (as := [vi (h 237 i12)]) (nx := 143) (r1 := 218) (r2 := 17) (r3 := 0) rfl rfl rfl (of_decide_eq_true rfl) rfl rfl (of_decide_eq_true rfl) (of_decide_eq_true rfl) ?_
      refine wi_iload_n (i := 0) (e := h 237 i12) (nx := 1) (r1 := 0) (r2 := 0) (r3 := 0) rfl rfl ?_
      refine wi_bipush (n := 48) (nx := 3) (r1 := 0) (r2 := 0) (r3 := 0) rfl (by decide) ?_
      refine wi_icmp (cd := .lt) (nx := 6) (r1 := 16) (r2 := 0) (r3 := 0) rfl (by omega) (by omega) (fun (q17 : (h 237 i12) < 48) => ?_) (fun (q17 : ¬ ((h 237 i12) < 48)) => ?_)
      ·
        refine wi_iconst (n := 0) (nx := 17) (r1 := 0) (r2 := 0) (r3 := 0) rfl ?_
        refine wi_zreturn (nx := 18) (r1 := 0) (r2 := 0) (r3 := 0) rfl rfl (by omega) ?_
        refine wk_i ?_
        refine wi_if (cd := .eq) (nx := 146) (r1 := 205) (r2 := 0) (r3 := 0) rfl (by omega) (fun (q18 : 0 = 0) => ?_) (fun (q18 : ¬ (0 = 0)) => by exfalso; omega)
        refine wi_aload_n (i := 0) (x := 236) (nx := 206) (r1 := 0) (r2 := 0) (r3 := 0) rfl rfl ?_
        refine wi_iload_n (i := 1) (e := h 237 i12) (nx := 207) (r1 := 0) (r2 := 0) (r3 := 0) rfl rfl ?_
        refine wi_bipush (n := 59) (nx := 209) (r1 := 0) (r2 := 0) (r3 := 0) rfl (by decide) ?_
        refine wi_icmp (cd := .eq) (nx := 212) (r1 := 224) (r2 := 0) (r3 := 0) rfl (by omega) (by omega) (fun (q19 : (h 237 i12) = 59) => by exfalso; omega) (fun (q19 : ¬ ((h 237 i12) = 59)) => ?_)
        refine wi_iload_n (i := 1) (e := h 237 i12) (nx := 213) (r1 := 0) (r2 := 0) (r3 := 0) rfl rfl ?_
        refine wi_bipush (n := 40) (nx := 215) (r1 := 0) (r2 := 0) (r3 := 0) rfl (by decide) ?_
        refine wi_icmp (cd := .eq) (nx := 218) (r1 := 224) (r2 := 0) (r3 := 0) rfl (by omega) (by omega) (fun (q20 : (h 237 i12) = 40) => ?_) (fun (q20 : ¬ ((h 237 i12) = 40)) => ?_)
        ·
          refine wi_iconst (n := 3) (nx := 225) (r1 := 0) (r2 := 0) (r3 := 0) rfl ?_
          refine wi_goto (nx := 228) (r1 := 229) (r2 := 0) (r3 := 0) rfl ?_
          refine wr_pf0 (k0 := 236) (x := 3) (bl := 0) (bh := 4) (nx := 232) (r1 := 11) (r2 := 6) (r3 := 0) rfl (by decide) rfl ⟨rfl, rfl⟩ rfl rfl g7 rfl (by omega) (fun h21 g21 w21 u21 => ?_)
          have F22 := F8.then rfl u21
          refine wi_aload_n (i := 0) (x := 236) (nx := 233) (r1 := 0) (r2 := 0) (r3 := 0) rfl rfl ?_
          refine wi_iload_n (i := 1) (e := h 237 i12) (nx := 234) (r1 := 0) (r2 := 0) (r3 := 0) rfl rfl ?_
          refine wr_pf0 (k0 := 236) (x := h 237 i12) (bl := 0) (bh := 999) (nx := 237) (r1 := 11) (r2 := 7) (r3 := 0) rfl (by decide) rfl ⟨rfl, rfl⟩ rfl rfl g21 rfl (by omega) (fun h23 g23 w23 u23 => ?_)
          have F24 := F22.then rfl u23
          refine wi_iconst (n := 1) (nx := 238) (r1 := 0) (r2 := 0) (r3 := 0) rfl ?_
          refine wi_istore_n (i := 2) (e := 1) (lo2 := [(2, vi 1), (1, vi (h 237 i12)), (0, .ref 236)]) (nx := 239) (r1 := 0) (r2 := 0) (r3 := 0) rfl rfl ?_
          refine wi_aload_n (i := 0) (x := 236) (nx := 240) (r1 := 0) (r2 := 0) (r3 := 0) rfl rfl ?_
          refine wi_dup (nx := 241) (r1 := 0) (r2 := 0) (r3 := 0) rfl rfl ?_
          refine wr_gi0 (k0 := 236) (x := h 236 4) (nx := 244) (r1 := 11) (r2 := 4) (r3 := 0) rfl rfl (by decide) rfl ⟨rfl, rfl⟩ rfl ((u23 236 4 rfl).trans ((u21 236 4 rfl).trans ((u7 236 4 rfl).trans ((u5 236 4 rfl).trans (u3 236 4 rfl))))) ?_
          refine wi_iload_n (i := 2) (e := 1) (nx := 245) (r1 := 0) (r2 := 0) (r3 := 0) rfl rfl ?_
          refine wr_add (nx := 246) (r1 := 0) (r2 := 0) (r3 := 0) rfl (fun e25 (fe25 : e25 = (h 236 4) + 1) => ?_)
          refine wr_pf0 (k0 := 236) (x := e25) (bl := 0) (bh := 800) (nx := 249) (r1 := 11) (r2 := 4) (r3 := 0) rfl (by decide) rfl ⟨rfl, rfl⟩ rfl rfl g23 rfl (by omega) (fun h26 g26 w26 u26 => ?_)
          have F27 := F24.then rfl u26
          refine wi_return (nx := 250) (r1 := 0) (r2 := 0) (r3 := 0) rfl rfl ?_
          have e28 : h26 236 4 = e25 := w26
          have e29 : h26 236 6 = 3 := ((u26 236 6 rfl).trans ((u23 236 6 rfl).trans w21))
          exact k h26 g26 F27 (show (h 236 4) ≤ (h26 236 4) by omega) (show (h26 236 4) ≤ (h 236 3) by omega) (show (h26 236 6) = 0 ∨ (h 236 4) + 1 ≤ (h26 236 4) by omega)
        ·
          refine wi_iload_n (i := 1) (e := h 237 i12) (nx := 219) (r1 := 0) (r2 := 0) (r3 := 0) rfl rfl ?_
          refine wi_bipush (n := 41) (nx := 221) (r1 := 0) (r2 := 0) (r3 := 0) rfl (by decide) ?_
          refine wi_icmp (cd := .ne) (nx := 224) (r1 := 228) (r2 := 0) (r3 := 0) rfl (by omega) (by omega) (fun (q21 : (h 237 i12) ≠ 41) => ?_) (fun (q21 : ¬ ((h 237 i12) ≠ 41)) => ?_)
          ·
            refine wi_iconst (n := 4) (nx := 229) (r1 := 0) (r2 := 0) (r3 := 0) rfl ?_
            refine wr_pf0 (k0 := 236) (x := 4) (bl := 0) (bh := 4) (nx := 232) (r1 := 11) (r2 := 6) (r3 := 0) rfl (by decide) rfl ⟨rfl, rfl⟩ rfl rfl g7 rfl (by omega) (fun h22 g22 w22 u22 => ?_)
            have F23 := F8.then rfl u22
            refine wi_aload_n (i := 0) (x := 236) (nx := 233) (r1 := 0) (r2 := 0) (r3 := 0) rfl rfl ?_
            refine wi_iload_n (i := 1) (e := h 237 i12) (nx := 234) (r1 := 0) (r2 := 0) (r3 := 0) rfl rfl ?_
            refine wr_pf0 (k0 := 236) (x := h 237 i12) (bl := 0) (bh := 999) (nx := 237) (r1 := 11) (r2 := 7) (r3 := 0) rfl (by decide) rfl ⟨rfl, rfl⟩ rfl rfl g22 rfl (by omega) (fun h24 g24 w24 u24 => ?_)
            have F25 := F23.then rfl u24
            refine wi_iconst (n := 1) (nx := 238) (r1 := 0) (r2 := 0) (r3 := 0) rfl ?_
            refine wi_istore_n (i := 2) (e := 1) (lo2 := [(2, vi 1), (1, vi (h 237 i12)), (0, .ref 236)]) (nx := 239) (r1 := 0) (r2 := 0) (r3 := 0) rfl rfl ?_
            refine wi_aload_n (i := 0) (x := 236) (nx := 240) (r1 := 0) (r2 := 0) (r3 := 0) rfl rfl ?_
            refine wi_dup (nx := 241) (r1 := 0) (r2 := 0) (r3 := 0) rfl rfl ?_
            refine wr_gi0 (k0 := 236) (x := h 236 4) (nx := 244) (r1 := 11) (r2 := 4) (r3 := 0) rfl rfl (by decide) rfl ⟨rfl, rfl⟩ rfl ((u24 236 4 rfl).trans ((u22 236 4 rfl).trans ((u7 236 4 rfl).trans ((u5 236 4 rfl).trans (u3 236 4 rfl))))) ?_
            refine wi_iload_n (i := 2) (e := 1) (nx := 245) (r1 := 0) (r2 := 0) (r3 := 0) rfl rfl ?_
            refine wr_add (nx := 246) (r1 := 0) (r2 := 0) (r3 := 0) rfl (fun e26 (fe26 : e26 = (h 236 4) + 1) => ?_)
            refine wr_pf0 (k0 := 236) (x := e26) (bl := 0) (bh := 800) (nx := 249) (r1 := 11) (r2 := 4) (r3 := 0) rfl (by decide) rfl ⟨rfl, rfl⟩ rfl rfl g24 rfl (by omega) (fun h27 g27 w27 u27 => ?_)
            have F28 := F25.then rfl u27
            refine wi_return (nx := 250) (r1 := 0) (r2 := 0) (r3 := 0) rfl rfl ?_
            have e29 : h27 236 4 = e26 := w27
            have e30 : h27 236 6 = 4 := ((u27 236 6 rfl).trans ((u24 236 6 rfl).trans w22))
            exact k h27 g27 F28 (show (h 236 4) ≤ (h27 236 4) by omega) (show (h27 236 4) ≤ (h 236 3) by omega) (show (h27 236 6) = 0 ∨ (h 236 4) + 1 ≤ (h27 236 4) by omega)
          ·
            refine wi_iconst (n := 3) (nx := 225) (r1 := 0) (r2 := 0) (r3 := 0) rfl ?_
            refine wi_goto (nx := 228) (r1 := 229) (r2 := 0) (r3 := 0) rfl ?_
            refine wr_pf0 (k0 := 236) (x := 3) (bl := 0) (bh := 4) (nx := 232) (r1 := 11) (r2 := 6) (r3 := 0) rfl (by decide) rfl ⟨rfl, rfl⟩ rfl rfl g7 rfl (by omega) (fun h22 g22 w22 u22 => ?_)
            have F23 := F8.then rfl u22
            refine wi_aload_n (i := 0) (x := 236) (nx := 233) (r1 := 0) (r2 := 0) (r3 := 0) rfl rfl ?_
            refine wi_iload_n (i := 1) (e := h 237 i12) (nx := 234) (r1 := 0) (r2 := 0) (r3 := 0) rfl rfl ?_
            refine wr_pf0 (k0 := 236) (x := h 237 i12) (bl := 0) (bh := 999) (nx := 237) (r1 := 11) (r2 := 7) (r3 := 0) rfl (by decide) rfl ⟨rfl, rfl⟩ rfl rfl g22 rfl (by omega) (fun h24 g24 w24 u24 => ?_)
            have F25 := F23.then rfl u24
            refine wi_iconst (n := 1) (nx := 238) (r1 := 0) (r2 := 0) (r3 := 0) rfl ?_
            refine wi_istore_n (i := 2) (e := 1) (lo2 := [(2, vi 1), (1, vi (h 237 i12)), (0, .ref 236)]) (nx := 239) (r1 := 0) (r2 := 0) (r3 := 0) rfl rfl ?_
            refine wi_aload_n (i := 0) (x := 236) (nx := 240) (r1 := 0) (r2 := 0) (r3 := 0) rfl rfl ?_
            refine wi_dup (nx := 241) (r1 := 0) (r2 := 0) (r3 := 0) rfl rfl ?_
            refine wr_gi0 (k0 := 236) (x := h 236 4) (nx := 244) (r1 := 11) (r2 := 4) (r3 := 0) rfl rfl (by decide) rfl ⟨rfl, rfl⟩ rfl ((u24 236 4 rfl).trans ((u22 236 4 rfl).trans ((u7 236 4 rfl).trans ((u5 236 4 rfl).trans (u3 236 4 rfl))))) ?_
            refine wi_iload_n (i := 2) (e := 1) (nx := 245) (r1 := 0) (r2 := 0) (r3 := 0) rfl rfl ?_
            refine wr_add (nx := 246) (r1 := 0) (r2 := 0) (r3 := 0) rfl (fun e26 (fe26 : e26 = (h 236 4) + 1) => ?_)
            refine wr_pf0 (k0 := 236) (x := e26) (bl := 0) (bh := 800) (nx := 249) (r1 := 11) (r2 := 4) (r3 := 0) rfl (by decide) rfl ⟨rfl, rfl⟩ rfl rfl g24 rfl (by omega) (fun h27 g27 w27 u27 => ?_)
            have F28 := F25.then rfl u27
            refine wi_return (nx := 250) (r1 := 0) (r2 := 0) (r3 := 0) rfl rfl ?_
            have e29 : h27 236 4 = e26 := w27
            have e30 : h27 236 6 = 3 := ((u27 236 6 rfl).trans ((u24 236 6 rfl).trans w22))
            exact k h27 g27 F28 (show (h 236 4) ≤ (h27 236 4) by omega) (show (h27 236 4) ≤ (h 236 3) by omega) (show (h27 236 6) = 0 ∨ (h 236 4) + 1 ≤ (h27 236 4) by omega)
      ·
        refine wi_iload_n (i := 0) (e := h 237 i12) (nx := 7) (r1 := 0) (r2 := 0) (r3 := 0) rfl rfl ?_
        refine wi_bipush (n := 57) (nx := 9) (r1 := 0) (r2 := 0) (r3 := 0) rfl (by decide) ?_
        refine wi_icmp (cd := .gt) (nx := 12) (r1 := 16) (r2 := 0) (r3 := 0) rfl (by omega) (by omega) (fun (q18 : 57 < (h 237 i12)) => ?_) (fun (q18 : ¬ (57 < (h 237 i12))) => ?_)
        ·
          refine wi_iconst (n := 0) (nx := 17) (r1 := 0) (r2 := 0) (r3 := 0) rfl ?_
          refine wi_zreturn (nx := 18) (r1 := 0) (r2 := 0) (r3 := 0) rfl rfl (by omega) ?_
          refine wk_i ?_
          refine wi_if (cd := .eq) (nx := 146) (r1 := 205) (r2 := 0) (r3 := 0) rfl (by omega) (fun (q19 : 0 = 0) => ?_) (fun (q19 : ¬ (0 = 0)) => by exfalso; omega)
          refine wi_aload_n (i := 0) (x := 236) (nx := 206) (r1 := 0) (r2 := 0) (r3 := 0) rfl rfl ?_
          refine wi_iload_n (i := 1) (e := h 237 i12) (nx := 207) (r1 := 0) (r2 := 0) (r3 := 0) rfl rfl ?_
          refine wi_bipush (n := 59) (nx := 209) (r1 := 0) (r2 := 0) (r3 := 0) rfl (by decide) ?_
          refine wi_icmp (cd := .eq) (nx := 212) (r1 := 224) (r2 := 0) (r3 := 0) rfl (by omega) (by omega) (fun (q20 : (h 237 i12) = 59) => ?_) (fun (q20 : ¬ ((h 237 i12) = 59)) => ?_)
          ·
            refine wi_iconst (n := 3) (nx := 225) (r1 := 0) (r2 := 0) (r3 := 0) rfl ?_
            refine wi_goto (nx := 228) (r1 := 229) (r2 := 0) (r3 := 0) rfl ?_
            refine wr_pf0 (k0 := 236) (x := 3) (bl := 0) (bh := 4) (nx := 232) (r1 := 11) (r2 := 6) (r3 := 0) rfl (by decide) rfl ⟨rfl, rfl⟩ rfl rfl g7 rfl (by omega) (fun h21 g21 w21 u21 => ?_)
            have F22 := F8.then rfl u21
            refine wi_aload_n (i := 0) (x := 236) (nx := 233) (r1 := 0) (r2 := 0) (r3 := 0) rfl rfl ?_
            refine wi_iload_n (i := 1) (e := h 237 i12) (nx := 234) (r1 := 0) (r2 := 0) (r3 := 0) rfl rfl ?_
            refine wr_pf0 (k0 := 236) (x := h 237 i12) (bl := 0) (bh := 999) (nx := 237) (r1 := 11) (r2 := 7) (r3 := 0) rfl (by decide) rfl ⟨rfl, rfl⟩ rfl rfl g21 rfl (by omega) (fun h23 g23 w23 u23 => ?_)
            have F24 := F22.then rfl u23
            refine wi_iconst (n := 1) (nx := 238) (r1 := 0) (r2 := 0) (r3 := 0) rfl ?_
            refine wi_istore_n (i := 2) (e := 1) (lo2 := [(2, vi 1), (1, vi (h 237 i12)), (0, .ref 236)]) (nx := 239) (r1 := 0) (r2 := 0) (r3 := 0) rfl rfl ?_
            refine wi_aload_n (i := 0) (x := 236) (nx := 240) (r1 := 0) (r2 := 0) (r3 := 0) rfl rfl ?_
            refine wi_dup (nx := 241) (r1 := 0) (r2 := 0) (r3 := 0) rfl rfl ?_
            refine wr_gi0 (k0 := 236) (x := h 236 4) (nx := 244) (r1 := 11) (r2 := 4) (r3 := 0) rfl rfl (by decide) rfl ⟨rfl, rfl⟩ rfl ((u23 236 4 rfl).trans ((u21 236 4 rfl).trans ((u7 236 4 rfl).trans ((u5 236 4 rfl).trans (u3 236 4 rfl))))) ?_
            refine wi_iload_n (i := 2) (e := 1) (nx := 245) (r1 := 0) (r2 := 0) (r3 := 0) rfl rfl ?_
            refine wr_add (nx := 246) (r1 := 0) (r2 := 0) (r3 := 0) rfl (fun e25 (fe25 : e25 = (h 236 4) + 1) => ?_)
            refine wr_pf0 (k0 := 236) (x := e25) (bl := 0) (bh := 800) (nx := 249) (r1 := 11) (r2 := 4) (r3 := 0) rfl (by decide) rfl ⟨rfl, rfl⟩ rfl rfl g23 rfl (by omega) (fun h26 g26 w26 u26 => ?_)
            have F27 := F24.then rfl u26
            refine wi_return (nx := 250) (r1 := 0) (r2 := 0) (r3 := 0) rfl rfl ?_
            have e28 : h26 236 4 = e25 := w26
            have e29 : h26 236 6 = 3 := ((u26 236 6 rfl).trans ((u23 236 6 rfl).trans w21))
            exact k h26 g26 F27 (show (h 236 4) ≤ (h26 236 4) by omega) (show (h26 236 4) ≤ (h 236 3) by omega) (show (h26 236 6) = 0 ∨ (h 236 4) + 1 ≤ (h26 236 4) by omega)
          ·
            refine wi_iload_n (i := 1) (e := h 237 i12) (nx := 213) (r1 := 0) (r2 := 0) (r3 := 0) rfl rfl ?_
            refine wi_bipush (n := 40) (nx := 215) (r1 := 0) (r2 := 0) (r3 := 0) rfl (by decide) ?_
            refine wi_icmp (cd := .eq) (nx := 218) (r1 := 224) (r2 := 0) (r3 := 0) rfl (by omega) (by omega) (fun (q21 : (h 237 i12) = 40) => by exfalso; omega) (fun (q21 : ¬ ((h 237 i12) = 40)) => ?_)
            refine wi_iload_n (i := 1) (e := h 237 i12) (nx := 219) (r1 := 0) (r2 := 0) (r3 := 0) rfl rfl ?_
            refine wi_bipush (n := 41) (nx := 221) (r1 := 0) (r2 := 0) (r3 := 0) rfl (by decide) ?_
            refine wi_icmp (cd := .ne) (nx := 224) (r1 := 228) (r2 := 0) (r3 := 0) rfl (by omega) (by omega) (fun (q22 : (h 237 i12) ≠ 41) => ?_) (fun (q22 : ¬ ((h 237 i12) ≠ 41)) => by exfalso; omega)
            refine wi_iconst (n := 4) (nx := 229) (r1 := 0) (r2 := 0) (r3 := 0) rfl ?_
            refine wr_pf0 (k0 := 236) (x := 4) (bl := 0) (bh := 4) (nx := 232) (r1 := 11) (r2 := 6) (r3 := 0) rfl (by decide) rfl ⟨rfl, rfl⟩ rfl rfl g7 rfl (by omega) (fun h23 g23 w23 u23 => ?_)
            have F24 := F8.then rfl u23
            refine wi_aload_n (i := 0) (x := 236) (nx := 233) (r1 := 0) (r2 := 0) (r3 := 0) rfl rfl ?_
            refine wi_iload_n (i := 1) (e := h 237 i12) (nx := 234) (r1 := 0) (r2 := 0) (r3 := 0) rfl rfl ?_
            refine wr_pf0 (k0 := 236) (x := h 237 i12) (bl := 0) (bh := 999) (nx := 237) (r1 := 11) (r2 := 7) (r3 := 0) rfl (by decide) rfl ⟨rfl, rfl⟩ rfl rfl g23 rfl (by omega) (fun h25 g25 w25 u25 => ?_)
            have F26 := F24.then rfl u25
            refine wi_iconst (n := 1) (nx := 238) (r1 := 0) (r2 := 0) (r3 := 0) rfl ?_
            refine wi_istore_n (i := 2) (e := 1) (lo2 := [(2, vi 1), (1, vi (h 237 i12)), (0, .ref 236)]) (nx := 239) (r1 := 0) (r2 := 0) (r3 := 0) rfl rfl ?_
            refine wi_aload_n (i := 0) (x := 236) (nx := 240) (r1 := 0) (r2 := 0) (r3 := 0) rfl rfl ?_
            refine wi_dup (nx := 241) (r1 := 0) (r2 := 0) (r3 := 0) rfl rfl ?_
            refine wr_gi0 (k0 := 236) (x := h 236 4) (nx := 244) (r1 := 11) (r2 := 4) (r3 := 0) rfl rfl (by decide) rfl ⟨rfl, rfl⟩ rfl ((u25 236 4 rfl).trans ((u23 236 4 rfl).trans ((u7 236 4 rfl).trans ((u5 236 4 rfl).trans (u3 236 4 rfl))))) ?_
            refine wi_iload_n (i := 2) (e := 1) (nx := 245) (r1 := 0) (r2 := 0) (r3 := 0) rfl rfl ?_
            refine wr_add (nx := 246) (r1 := 0) (r2 := 0) (r3 := 0) rfl (fun e27 (fe27 : e27 = (h 236 4) + 1) => ?_)
            refine wr_pf0 (k0 := 236) (x := e27) (bl := 0) (bh := 800) (nx := 249) (r1 := 11) (r2 := 4) (r3 := 0) rfl (by decide) rfl ⟨rfl, rfl⟩ rfl rfl g25 rfl (by omega) (fun h28 g28 w28 u28 => ?_)
            have F29 := F26.then rfl u28
            refine wi_return (nx := 250) (r1 := 0) (r2 := 0) (r3 := 0) rfl rfl ?_
            have e30 : h28 236 4 = e27 := w28
            have e31 : h28 236 6 = 4 := ((u28 236 6 rfl).trans ((u25 236 6 rfl).trans w23))
            exact k h28 g28 F29 (show (h 236 4) ≤ (h28 236 4) by omega) (show (h28 236 4) ≤ (h 236 3) by omega) (show (h28 236 6) = 0 ∨ (h 236 4) + 1 ≤ (h28 236 4) by omega)
        ·
          refine wi_iconst (n := 1) (nx := 13) (r1 := 0) (r2 := 0) (r3 := 0) rfl ?_
          refine wi_goto (nx := 16) (r1 := 17) (r2 := 0) (r3 := 0) rfl ?_
          refine wi_zreturn (nx := 18) (r1 := 0) (r2 := 0) (r3 := 0) rfl rfl (by omega) ?_
          refine wk_i ?_
          refine wi_if (cd := .eq) (nx := 146) (r1 := 205) (r2 := 0) (r3 := 0) rfl (by omega) (fun (q19 : 1 = 0) => by exfalso; omega) (fun (q19 : ¬ (1 = 0)) => ?_)
          refine wp.lo (lo := [(0, .ref 236), (2, vi 0)]) ⟨rfl, rfl, trivial⟩ rfl ?_
          have e21 : h7 236 4 = h 236 4 := ((u7 236 4 rfl).trans ((u5 236 4 rfl).trans (u3 236 4 rfl)))
          have e22 : h7 236 3 = h 236 3 := ((u7 236 3 rfl).trans ((u5 236 3 rfl).trans (u3 236 3 rfl)))
          have e23 : h7 237 (0 + (h7 236 4).toNat) = h 237 i12 := by rw [show 0 + (h7 236 4).toNat = i12 by omega]; exact ((u7 237 i12 (fn_a (by omega) fn_0)).trans ((u5 237 i12 (fn_a (by omega) fn_0)).trans (u3 237 i12 (fn_a (by omega) fn_0))))
          have e24 : h7 236 7 = 0 := w7
          refine ct_215_p146_236_L2_0 hcr  g7   (show (h7 236 4) + 1 ≤ (h7 236 3) by omega) (show 48 ≤ (h7 237 (0 + (h7 236 4).toNat)) by omega) (show (h7 237 (0 + (h7 236 4).toNat)) ≤ 57 by omega) (show (h7 236 7) = 0 by omega) (fun h20 g20 u20 (p20_0 : (h7 236 4) ≤ (h20 236 4)) (p20_1 : (h20 236 4) ≤ (h7 236 3)) (p20_2 : (h20 236 6) = 0 ∨ (h7 236 4) + 1 ≤ (h20 236 4)) => ?_)
          have F25 := F8.then (by decide +kernel) u20
          have b26 := gi_b (lo := 0) (hi := 800) g20 236 4 rfl
          have b27 := gi_b (lo := 0) (hi := 4) g20 236 6 rfl
          exact k h20 g20 F25 (show (h 236 4) ≤ (h20 236 4) by omega) (show (h20 236 4) ≤ (h 236 3) by omega) (show (h20 236 6) = 0 ∨ (h 236 4) + 1 ≤ (h20 236 4) by omega)
    ·
      refine wi_iload_n (i := 0) (e := h 237 i12) (nx := 7) (r1 := 0) (r2 := 0) (r3 := 0) rfl rfl ?_
      refine wi_bipush (n := 122) (nx := 9) (r1 := 0) (r2 := 0) (r3 := 0) rfl (by decide) ?_
      refine wi_icmp (cd := .gt) (nx := 12) (r1 := 16) (r2 := 0) (r3 := 0) rfl (by omega) (by omega) (fun (q16 : 122 < (h 237 i12)) => ?_) (fun (q16 : ¬ (122 < (h 237 i12))) => ?_)
      ·
        refine wi_iconst (n := 0) (nx := 17) (r1 := 0) (r2 := 0) (r3 := 0) rfl ?_
        refine wi_zreturn (nx := 18) (r1 := 0) (r2 := 0) (r3 := 0) rfl rfl (by omega) ?_
        refine wk_i ?_
        refine wi_if (cd := .eq) (nx := 76) (r1 := 139) (r2 := 0) (r3 := 0) rfl (by omega) (fun (q17 : 0 = 0) => ?_) (fun (q17 : ¬ (0 = 0)) => by exfalso; omega)
        refine wi_iload_n (i := 1) (e := h 237 i12) (nx := 140) (r1 := 0) (r2 := 0) (r3 := 0) rfl rfl ?_
        refine wi_S (rest := []) (as := [vi (h 237 i12)]) (nx := 143) (r1 := 218) (r2 := 17) (r3 := 0) rfl rfl rfl (of_decide_eq_true rfl) rfl rfl (of_decide_eq_true rfl) (of_decide_eq_true rfl) ?_
        refine wi_iload_n (i := 0) (e := h 237 i12) (nx := 1) (r1 := 0) (r2 := 0) (r3 := 0) rfl rfl ?_
        refine wi_bipush (n := 48) (nx := 3) (r1 := 0) (r2 := 0) (r3 := 0) rfl (by decide) ?_
        refine wi_icmp (cd := .lt) (nx := 6) (r1 := 16) (r2 := 0) (r3 := 0) rfl (by omega) (by omega) (fun (q18 : (h 237 i12) < 48) => by exfalso; omega) (fun (q18 : ¬ ((h 237 i12) < 48)) => ?_)
        refine wi_iload_n (i := 0) (e := h 237 i12) (nx := 7) (r1 := 0) (r2 := 0) (r3 := 0) rfl rfl ?_
        refine wi_bipush (n := 57) (nx := 9) (r1 := 0) (r2 := 0) (r3 := 0) rfl (by decide) ?_
        refine wi_icmp (cd := .gt) (nx := 12) (r1 := 16) (r2 := 0) (r3 := 0) rfl (by omega) (by omega) (fun (q19 : 57 < (h 237 i12)) => ?_) (fun (q19 : ¬ (57 < (h 237 i12))) => by exfalso; omega)
        refine wi_iconst (n := 0) (nx := 17) (r1 := 0) (r2 := 0) (r3 := 0) rfl ?_
        refine wi_zreturn (nx := 18) (r1 := 0) (r2 := 0) (r3 := 0) rfl rfl (by omega) ?_
        refine wk_i ?_
        refine wi_if (cd := .eq) (nx := 146) (r1 := 205) (r2 := 0) (r3 := 0) rfl (by omega) (fun (q20 : 0 = 0) => ?_) (fun (q20 : ¬ (0 = 0)) => by exfalso; omega)
        refine wi_aload_n (i := 0) (x := 236) (nx := 206) (r1 := 0) (r2 := 0) (r3 := 0) rfl rfl ?_
        refine wi_iload_n (i := 1) (e := h 237 i12) (nx := 207) (r1 := 0) (r2 := 0) (r3 := 0) rfl rfl ?_
        refine wi_bipush (n := 59) (nx := 209) (r1 := 0) (r2 := 0) (r3 := 0) rfl (by decide) ?_
        refine wi_icmp (cd := .eq) (nx := 212) (r1 := 224) (r2 := 0) (r3 := 0) rfl (by omega) (by omega) (fun (q21 : (h 237 i12) = 59) => by exfalso; omega) (fun (q21 : ¬ ((h 237 i12) = 59)) => ?_)
        refine wi_iload_n (i := 1) (e := h 237 i12) (nx := 213) (r1 := 0) (r2 := 0) (r3 := 0) rfl rfl ?_
        refine wi_bipush (n := 40) (nx := 215) (r1 := 0) (r2 := 0) (r3 := 0) rfl (by decide) ?_
        refine wi_icmp (cd := .eq) (nx := 218) (r1 := 224) (r2 := 0) (r3 := 0) rfl (by omega) (by omega) (fun (q22 : (h 237 i12) = 40) => by exfalso; omega) (fun (q22 : ¬ ((h 237 i12) = 40)) => ?_)
        refine wi_iload_n (i := 1) (e := h 237 i12) (nx := 219) (r1 := 0) (r2 := 0) (r3 := 0) rfl rfl ?_
        refine wi_bipush (n := 41) (nx := 221) (r1 := 0) (r2 := 0) (r3 := 0) rfl (by decide) ?_
        refine wi_icmp (cd := .ne) (nx := 224) (r1 := 228) (r2 := 0) (r3 := 0) rfl (by omega) (by omega) (fun (q23 : (h 237 i12) ≠ 41) => ?_) (fun (q23 : ¬ ((h 237 i12) ≠ 41)) => by exfalso; omega)
        refine wi_iconst (n := 4) (nx := 229) (r1 := 0) (r2 := 0) (r3 := 0) rfl ?_
        refine wr_pf0 (k0 := 236) (x := 4) (bl := 0) (bh := 4) (nx := 232) (r1 := 11) (r2 := 6) (r3 := 0) rfl (by decide) rfl ⟨rfl, rfl⟩ rfl rfl g7 rfl (by omega) (fun h24 g24 w24 u24 => ?_)
        have F25 := F8.then rfl u24
        refine wi_aload_n (i := 0) (x := 236) (nx := 233) (r1 := 0) (r2 := 0) (r3 := 0) rfl rfl ?_
        refine wi_iload_n (i := 1) (e := h 237 i12) (nx := 234) (r1 := 0) (r2 := 0) (r3 := 0) rfl rfl ?_
        refine wr_pf0 (k0 := 236) (x := h 237 i12) (bl := 0) (bh := 999) (nx := 237) (r1 := 11) (r2 := 7) (r3 := 0) rfl (by decide) rfl ⟨rfl, rfl⟩ rfl rfl g24 rfl (by omega) (fun h26 g26 w26 u26 => ?_)
        have F27 := F25.then rfl u26
        refine wi_iconst (n := 1) (nx := 238) (r1 := 0) (r2 := 0) (r3 := 0) rfl ?_
        refine wi_istore_n (i := 2) (e := 1) (lo2 := [(2, vi 1), (1, vi (h 237 i12)), (0, .ref 236)]) (nx := 239) (r1 := 0) (r2 := 0) (r3 := 0) rfl rfl ?_
        refine wi_aload_n (i := 0) (x := 236) (nx := 240) (r1 := 0) (r2 := 0) (r3 := 0) rfl rfl ?_
        refine wi_dup (nx := 241) (r1 := 0) (r2 := 0) (r3 := 0) rfl rfl ?_
        refine wr_gi0 (k0 := 236) (x := h 236 4) (nx := 244) (r1 := 11) (r2 := 4) (r3 := 0) rfl rfl (by decide) rfl ⟨rfl, rfl⟩ rfl ((u26 236 4 rfl).trans ((u24 236 4 rfl).trans ((u7 236 4 rfl).trans ((u5 236 4 rfl).trans (u3 236 4 rfl))))) ?_
        refine wi_iload_n (i := 2) (e := 1) (nx := 245) (r1 := 0) (r2 := 0) (r3 := 0) rfl rfl ?_
        refine wr_add (nx := 246) (r1 := 0) (r2 := 0) (r3 := 0) rfl (fun e28 (fe28 : e28 = (h 236 4) + 1) => ?_)
        refine wr_pf0 (k0 := 236) (x := e28) (bl := 0) (bh := 800) (nx := 249) (r1 := 11) (r2 := 4) (r3 := 0) rfl (by decide) rfl ⟨rfl, rfl⟩ rfl rfl g26 rfl (by omega) (fun h29 g29 w29 u29 => ?_)
        have F30 := F27.then rfl u29
        refine wi_return (nx := 250) (r1 := 0) (r2 := 0) (r3 := 0) rfl rfl ?_
        have e31 : h29 236 4 = e28 := w29
        have e32 : h29 236 6 = 4 := ((u29 236 6 rfl).trans ((u26 236 6 rfl).trans w24))
        exact k h29 g29 F30 (show (h 236 4) ≤ (h29 236 4) by omega) (show (h29 236 4) ≤ (h 236 3) by omega) (show (h29 236 6) = 0 ∨ (h 236 4) + 1 ≤ (h29 236 4) by omega)
      ·
        refine wi_iconst (n := 1) (nx := 13) (r1 := 0) (r2 := 0) (r3 := 0) rfl ?_
        refine wi_goto (nx := 16) (r1 := 17) (r2 := 0) (r3 := 0) rfl ?_
        refine wi_zreturn (nx := 18) (r1 := 0) (r2 := 0) (r3 := 0) rfl rfl (by omega) ?_
        refine wk_i ?_
        refine wi_if (cd := .eq) (nx := 76) (r1 := 139) (r2 := 0) (r3 := 0) rfl (by omega) (fun (q17 : 1 = 0) => by exfalso; omega) (fun (q17 : ¬ (1 = 0)) => ?_)
        refine wp.lo (lo := [(0, .ref 236), (2, vi 0)]) ⟨rfl, rfl, trivial⟩ rfl ?_
        have e19 : h7 236 4 = h 236 4 := ((u7 236 4 rfl).trans ((u5 236 4 rfl).trans (u3 236 4 rfl)))
        have e20 : h7 236 3 = h 236 3 := ((u7 236 3 rfl).trans ((u5 236 3 rfl).trans (u3 236 3 rfl)))
        have e21 : h7 237 (0 + (h7 236 4).toNat) = h 237 i12 := by rw [show 0 + (h7 236 4).toNat = i12 by omega]; exact ((u7 237 i12 (fn_a (by omega) fn_0)).trans ((u5 237 i12 (fn_a (by omega) fn_0)).trans (u3 237 i12 (fn_a (by omega) fn_0))))
        refine ct_215_p76_236_L2_0 hcr  g7   (show (h7 236 4) + 1 ≤ (h7 236 3) by omega) (show 97 ≤ (h7 237 (0 + (h7 236 4).toNat)) by omega) (show (h7 237 (0 + (h7 236 4).toNat)) ≤ 122 by omega) (fun h18 g18 u18 (p18_0 : (h7 236 4) ≤ (h18 236 4)) (p18_1 : (h18 236 4) ≤ (h7 236 3)) (p18_2 : (h18 236 6) = 0 ∨ (h7 236 4) + 1 ≤ (h18 236 4)) => ?_)
        have F22 := F8.then (by decide +kernel) u18
        have b23 := gi_b (lo := 0) (hi := 800) g18 236 4 rfl
        have b24 := gi_b (lo := 0) (hi := 4) g18 236 6 rfl
        exact k h18 g18 F22 (show (h 236 4) ≤ (h18 236 4) by omega) (show (h18 236 4) ≤ (h 236 3) by omega) (show (h18 236 6) = 0 ∨ (h 236 4) + 1 ≤ (h18 236 4) by omega)
-- method 215: Model.goOn()V
set_option maxRecDepth 100000 in
set_option maxHeartbeats 100000000 in
theorem ct_215_236 {L : Nat} {xs : Nat → Int32} {d b c : Nat} {h : hp} {cr : Nat → Nat → Option Nat} {Q : hp_Q} (hcr : CR cr)  (g : GI h)   (pp0 : h 236 4 ≤ h 236 3) (k : ∀ (h2 : hp) , GI h2 → FR [(236, 236, some (4, 4)), (236, 236, some (5, 5)), (236, 236, some (6, 6)), (236, 236, some (7, 7)), (236, 236, some (12, 12))] h h2 → (h 236 4 ≤ h2 236 4) → (h2 236 4 ≤ h 236 3) → (h2 236 6 = 0 ∨ h 236 4 + 1 ≤ h2 236 4) → Q (.inl none) (hp_w h2 cr) b c) : wp (md_xa (L, xs)) (d + 1) 215 (0, [(0, .ref 236)], [], hp_w h cr, b, c) Q := by
  have F0 : FR [(236, 236, some (4, 4)), (236, 236, some (5, 5)), (236, 236, some (6, 6)), (236, 236, some (7, 7)), (236, 236, some (12, 12))] h h := FR.refl
  have b1 := gi_b (lo := 0) (hi := 800) g 236 4 rfl
  have b2 := gi_b (lo := 0) (hi := 800) g 236 3 rfl
  refine wl_0 (fun h3 => GI h3 ∧ FR [(236, 236, some (4, 4)), (236, 236, some (5, 5)), (236, 236, some (6, 6)), (236, 236, some (7, 7)), (236, 236, some (12, 12))] h h3 ∧ FR [(236, 236, some (4, 4))] h h3 ∧ (((h3 236 4) ≤ (h3 236 3)) ∧ ((h 236 4) ≤ (h3 236 4)))) (fun h3 => ((h3 236 3) - (h3 236 4)).toNat) (fun h3 => (0, [(0, .ref 236)], [], hp_w h3 cr, b, c)) ?_ h ⟨g, F0, FR.refl, (show ((h 236 4) ≤ (h 236 3)) ∧ ((h 236 4) ≤ (h 236 4)) by omega)⟩
  intro h3 ⟨g3, F4, u3, f3⟩ I3
  have e5 : h3 236 3 = h 236 3 := (u3 236 3 rfl)
  have b6 := gi_b (lo := 0) (hi := 800) g3 236 4 rfl
  refine wi_aload_n (i := 0) (x := 236) (nx := 1) (r1 := 0) (r2 := 0) (r3 := 0) rfl rfl ?_
  refine wi_iconst (n := 0) (nx := 2) (r1 := 0) (r2 := 0) (r3 := 0) rfl ?_
  refine wr_V (k0 := 236) (rest := []) (as := [.ref 236, vi 0]) (nx := 5) (r1 := 216) (r2 := 1) (r3 := 11) rfl rfl rfl (of_decide_eq_true rfl) rfl rfl (by decide) rfl rfl (of_decide_eq_true rfl) (of_decide_eq_true rfl) ?_
  refine wi_aload_n (i := 0) (x := 236) (nx := 1) (r1 := 0) (r2 := 0) (r3 := 0) rfl rfl ?_
  refine wr_gi0 (k0 := 236) (x := h3 236 4) (nx := 4) (r1 := 11) (r2 := 4) (r3 := 0) rfl rfl (by decide) rfl ⟨rfl, rfl⟩ rfl rfl ?_
  refine wi_iload_n (i := 1) (e := 0) (nx := 5) (r1 := 0) (r2 := 0) (r3 := 0) rfl rfl ?_
  refine wr_add (nx := 6) (r1 := 0) (r2 := 0) (r3 := 0) rfl (fun e7 (fe7 : e7 = (h3 236 4) + 0) => ?_)
  refine wi_aload_n (i := 0) (x := 236) (nx := 7) (r1 := 0) (r2 := 0) (r3 := 0) rfl rfl ?_
  refine wr_gi0 (k0 := 236) (x := h 236 3) (nx := 10) (r1 := 11) (r2 := 3) (r3 := 0) rfl rfl (by decide) rfl ⟨rfl, rfl⟩ rfl (u3 236 3 rfl) ?_
  refine wi_icmp (cd := .ge) (nx := 13) (r1 := 27) (r2 := 0) (r3 := 0) rfl (by omega) (by omega) (fun (q8 : (h 236 3) ≤ e7) => ?_) (fun (q8 : ¬ ((h 236 3) ≤ e7)) => ?_)
  ·
    refine wi_iconst (n := (-1)) (nx := 28) (r1 := 0) (r2 := 0) (r3 := 0) rfl ?_
    refine wi_ireturn (nx := 29) (r1 := 0) (r2 := 0) (r3 := 0) rfl rfl ?_
    refine wk_i ?_
    refine wi_bipush (n := 32) (nx := 7) (r1 := 0) (r2 := 0) (r3 := 0) rfl (by decide) ?_
    refine wi_icmp (cd := .eq) (nx := 10) (r1 := 20) (r2 := 0) (r3 := 0) rfl (by omega) (by omega) (fun (q9 : (-1) = 32) => by exfalso; omega) (fun (q9 : ¬ ((-1) = 32)) => ?_)
    refine wi_aload_n (i := 0) (x := 236) (nx := 11) (r1 := 0) (r2 := 0) (r3 := 0) rfl rfl ?_
    refine wi_iconst (n := 0) (nx := 12) (r1 := 0) (r2 := 0) (r3 := 0) rfl ?_
    refine wr_V (k0 := 236) (rest := []) (as := [.ref 236, vi 0]) (nx := 15) (r1 := 216) (r2 := 1) (r3 := 11) rfl rfl rfl (of_decide_eq_true rfl) rfl rfl (by decide) rfl rfl (of_decide_eq_true rfl) (of_decide_eq_true rfl) ?_
    refine wi_aload_n (i := 0) (x := 236) (nx := 1) (r1 := 0) (r2 := 0) (r3 := 0) rfl rfl ?_
    refine wr_gi0 (k0 := 236) (x := h3 236 4) (nx := 4) (r1 := 11) (r2 := 4) (r3 := 0) rfl rfl (by decide) rfl ⟨rfl, rfl⟩ rfl rfl ?_
    refine wi_iload_n (i := 1) (e := 0) (nx := 5) (r1 := 0) (r2 := 0) (r3 := 0) rfl rfl ?_
    refine wr_add (nx := 6) (r1 := 0) (r2 := 0) (r3 := 0) rfl (fun e10 (fe10 : e10 = (h3 236 4) + 0) => ?_)
    refine wi_aload_n (i := 0) (x := 236) (nx := 7) (r1 := 0) (r2 := 0) (r3 := 0) rfl rfl ?_
    refine wr_gi0 (k0 := 236) (x := h 236 3) (nx := 10) (r1 := 11) (r2 := 3) (r3 := 0) rfl rfl (by decide) rfl ⟨rfl, rfl⟩ rfl (u3 236 3 rfl) ?_
    refine wi_icmp (cd := .ge) (nx := 13) (r1 := 27) (r2 := 0) (r3 := 0) rfl (by omega) (by omega) (fun (q11 : (h 236 3) ≤ e10) => ?_) (fun (q11 : ¬ ((h 236 3) ≤ e10)) => by exfalso; omega)
    refine wi_iconst (n := (-1)) (nx := 28) (r1 := 0) (r2 := 0) (r3 := 0) rfl ?_
    refine wi_ireturn (nx := 29) (r1 := 0) (r2 := 0) (r3 := 0) rfl rfl ?_
    refine wk_i ?_
    refine wi_bipush (n := 10) (nx := 17) (r1 := 0) (r2 := 0) (r3 := 0) rfl (by decide) ?_
    refine wi_icmp (cd := .ne) (nx := 20) (r1 := 33) (r2 := 0) (r3 := 0) rfl (by omega) (by omega) (fun (q12 : (-1) ≠ 10) => ?_) (fun (q12 : ¬ ((-1) ≠ 10)) => by exfalso; omega)
    refine ct_215_p33_236 hcr  g3   (show (h3 236 4) ≤ (h3 236 3) by omega) (fun h13 g13 u13 (p13_0 : (h3 236 4) ≤ (h13 236 4)) (p13_1 : (h13 236 4) ≤ (h3 236 3)) (p13_2 : (h13 236 6) = 0 ∨ (h3 236 4) + 1 ≤ (h13 236 4)) => ?_)
    have F14 := F4.then (by decide +kernel) u13
    have b15 := gi_b (lo := 0) (hi := 800) g13 236 4 rfl
    have b16 := gi_b (lo := 0) (hi := 4) g13 236 6 rfl
    exact k h13 g13 F14 (show (h 236 4) ≤ (h13 236 4) by omega) (show (h13 236 4) ≤ (h 236 3) by omega) (show (h13 236 6) = 0 ∨ (h 236 4) + 1 ≤ (h13 236 4) by omega)
  ·
    refine wi_aload_n (i := 0) (x := 236) (nx := 14) (r1 := 0) (r2 := 0) (r3 := 0) rfl rfl ?_
    refine wr_gr (k0 := 236) (x := 237) (nx := 17) (r1 := 11) (r2 := 1) (r3 := 0) rfl rfl (by decide) rfl ⟨rfl, rfl⟩ rfl ?_
    refine wi_aload_n (i := 0) (x := 236) (nx := 18) (r1 := 0) (r2 := 0) (r3 := 0) rfl rfl ?_
    refine wr_gi0 (k0 := 236) (x := h3 236 4) (nx := 21) (r1 := 11) (r2 := 4) (r3 := 0) rfl rfl (by decide) rfl ⟨rfl, rfl⟩ rfl rfl ?_
    refine wi_iload_n (i := 1) (e := 0) (nx := 22) (r1 := 0) (r2 := 0) (r3 := 0) rfl rfl ?_
    refine wr_add (nx := 23) (r1 := 0) (r2 := 0) (r3 := 0) rfl (fun e9 (fe9 : e9 = (h3 236 4) + 0) => ?_)
    obtain ⟨i10, ei10⟩ : ∃ q : Nat, e9 = (q : Int) := ⟨(e9).toNat, by omega⟩
    have b11 := gi_b (lo := 0) (hi := 255) g 237 i10 rfl
    refine wr_ia (k0 := 237) (a := e9) (f := i10) (x := h 237 i10) (nx := 24) (r1 := 0) (r2 := 0) (r3 := 0) rfl (by decide) rfl (by omega) (by omega) (by decide) (u3 237 i10 (fn_a (by omega) fn_0)) ?_
    refine wi_goto (nx := 27) (r1 := 28) (r2 := 0) (r3 := 0) rfl ?_
    refine wi_ireturn (nx := 29) (r1 := 0) (r2 := 0) (r3 := 0) rfl rfl ?_
    refine wk_i ?_
    refine wi_bipush (n := 32) (nx := 7) (r1 := 0) (r2 := 0) (r3 := 0) rfl (by decide) ?_
    refine wi_icmp (cd := .eq) (nx := 10) (r1 := 20) (r2 := 0) (r3 := 0) rfl (by omega) (by omega) (fun (q12 : (h 237 i10) = 32) => ?_) (fun (q12 : ¬ ((h 237 i10) = 32)) => ?_)
    ·
      refine wi_aload_n (i := 0) (x := 236) (nx := 21) (r1 := 0) (r2 := 0) (r3 := 0) rfl rfl ?_
      refine wi_dup (nx := 22) (r1 := 0) (r2 := 0) (r3 := 0) rfl rfl ?_
      refine wr_gi0 (k0 := 236) (x := h3 236 4) (nx := 25) (r1 := 11) (r2 := 4) (r3 := 0) rfl rfl (by decide) rfl ⟨rfl, rfl⟩ rfl rfl ?_
      refine wi_iconst (n := 1) (nx := 26) (r1 := 0) (r2 := 0) (r3 := 0) rfl ?_
      refine wr_add (nx := 27) (r1 := 0) (r2 := 0) (r3 := 0) rfl (fun e13 (fe13 : e13 = (h3 236 4) + 1) => ?_)
      refine wr_pf0 (k0 := 236) (x := e13) (bl := 0) (bh := 800) (nx := 30) (r1 := 11) (r2 := 4) (r3 := 0) rfl (by decide) rfl ⟨rfl, rfl⟩ rfl rfl g3 rfl (by omega) (fun h14 g14 w14 u14 => ?_)
      have F15 := F4.then rfl u14
      have F16 := u3.then rfl u14
      refine wi_goto (nx := 33) (r1 := 0) (r2 := 0) (r3 := 0) rfl ?_
      have e17 : h14 236 4 = e13 := w14
      have e18 : h14 236 3 = h 236 3 := ((u14 236 3 rfl).trans (u3 236 3 rfl))
      exact I3 h14 ⟨g14, F15, F16, (show ((h14 236 4) ≤ (h14 236 3)) ∧ ((h 236 4) ≤ (h14 236 4)) by omega)⟩ (show ((h14 236 3) - (h14 236 4)).toNat < ((h3 236 3) - (h3 236 4)).toNat by omega)
    ·
      refine wi_aload_n (i := 0) (x := 236) (nx := 11) (r1 := 0) (r2 := 0) (r3 := 0) rfl rfl ?_
      refine wi_iconst (n := 0) (nx := 12) (r1 := 0) (r2 := 0) (r3 := 0) rfl ?_
      refine wr_V (k0 := 236) (rest := []) (as := [.ref 236, vi 0]) (nx := 15) (r1 := 216) (r2 := 1) (r3 := 11) rfl rfl rfl (of_decide_eq_true rfl) rfl rfl (by decide) rfl rfl (of_decide_eq_true rfl) (of_decide_eq_true rfl) ?_
      refine wi_aload_n (i := 0) (x := 236) (nx := 1) (r1 := 0) (r2 := 0) (r3 := 0) rfl rfl ?_
      refine wr_gi0 (k0 := 236) (x := h3 236 4) (nx := 4) (r1 := 11) (r2 := 4) (r3 := 0) rfl rfl (by decide) rfl ⟨rfl, rfl⟩ rfl rfl ?_
      refine wi_iload_n (i := 1) (e := 0) (nx := 5) (r1 := 0) (r2 := 0) (r3 := 0) rfl rfl ?_
      refine wr_add (nx := 6) (r1 := 0) (r2 := 0) (r3 := 0) rfl (fun e13 (fe13 : e13 = (h3 236 4) + 0) => ?_)
      refine wi_aload_n (i := 0) (x := 236) (nx := 7) (r1 := 0) (r2 := 0) (r3 := 0) rfl rfl ?_
      refine wr_gi0 (k0 := 236) (x := h 236 3) (nx := 10) (r1 := 11) (r2 := 3) (r3 := 0) rfl rfl (by decide) rfl ⟨rfl, rfl⟩ rfl (u3 236 3 rfl) ?_
      refine wi_icmp (cd := .ge) (nx := 13) (r1 := 27) (r2 := 0) (r3 := 0) rfl (by omega) (by omega) (fun (q14 : (h 236 3) ≤ e13) => by exfalso; omega) (fun (q14 : ¬ ((h 236 3) ≤ e13)) => ?_)
      refine wi_aload_n (i := 0) (x := 236) (nx := 14) (r1 := 0) (r2 := 0) (r3 := 0) rfl rfl ?_
      refine wr_gr (k0 := 236) (x := 237) (nx := 17) (r1 := 11) (r2 := 1) (r3 := 0) rfl rfl (by decide) rfl ⟨rfl, rfl⟩ rfl ?_
      refine wi_aload_n (i := 0) (x := 236) (nx := 18) (r1 := 0) (r2 := 0) (r3 := 0) rfl rfl ?_
      refine wr_gi0 (k0 := 236) (x := h3 236 4) (nx := 21) (r1 := 11) (r2 := 4) (r3 := 0) rfl rfl (by decide) rfl ⟨rfl, rfl⟩ rfl rfl ?_
      refine wi_iload_n (i := 1) (e := 0) (nx := 22) (r1 := 0) (r2 := 0) (r3 := 0) rfl rfl ?_
      refine wr_add (nx := 23) (r1 := 0) (r2 := 0) (r3 := 0) rfl (fun e15 (fe15 : e15 = (h3 236 4) + 0) => ?_)
      refine wr_ia (k0 := 237) (a := e15) (f := i10) (x := h 237 i10) (nx := 24) (r1 := 0) (r2 := 0) (r3 := 0) rfl (by decide) rfl (by omega) (by omega) (by decide) (u3 237 i10 (fn_a (by omega) fn_0)) ?_
      refine wi_goto (nx := 27) (r1 := 28) (r2 := 0) (r3 := 0) rfl ?_
      refine wi_ireturn (nx := 29) (r1 := 0) (r2 := 0) (r3 := 0) rfl rfl ?_
      refine wk_i ?_
      refine wi_bipush (n := 10) (nx := 17) (r1 := 0) (r2 := 0) (r3 := 0) rfl (by decide) ?_
      refine wi_icmp (cd := .ne) (nx := 20) (r1 := 33) (r2 := 0) (r3 := 0) rfl (by omega) (by omega) (fun (q16 : (h 237 i10) ≠ 10) => ?_) (fun (q16 : ¬ ((h 237 i10) ≠ 10)) => ?_)
      ·
        refine ct_215_p33_236 hcr  g3   (show (h3 236 4) ≤ (h3 236 3) by omega) (fun h17 g17 u17 (p17_0 : (h3 236 4) ≤ (h17 236 4)) (p17_1 : (h17 236 4) ≤ (h3 236 3)) (p17_2 : (h17 236 6) = 0 ∨ (h3 236 4) + 1 ≤ (h17 236 4)) => ?_)
        have F18 := F4.then (by decide +kernel) u17
        have b19 := gi_b (lo := 0) (hi := 800) g17 236 4 rfl
        have b20 := gi_b (lo := 0) (hi := 4) g17 236 6 rfl
        exact k h17 g17 F18 (show (h 236 4) ≤ (h17 236 4) by omega) (show (h17 236 4) ≤ (h 236 3) by omega) (show (h17 236 6) = 0 ∨ (h 236 4) + 1 ≤ (h17 236 4) by omega)
      ·
        refine wi_aload_n (i := 0) (x := 236) (nx := 21) (r1 := 0) (r2 := 0) (r3 := 0) rfl rfl ?_
        refine wi_dup (nx := 22) (r1 := 0) (r2 := 0) (r3 := 0) rfl rfl ?_
        refine wr_gi0 (k0 := 236) (x := h3 236 4) (nx := 25) (r1 := 11) (r2 := 4) (r3 := 0) rfl rfl (by decide) rfl ⟨rfl, rfl⟩ rfl rfl ?_
        refine wi_iconst (n := 1) (nx := 26) (r1 := 0) (r2 := 0) (r3 := 0) rfl ?_
        refine wr_add (nx := 27) (r1 := 0) (r2 := 0) (r3 := 0) rfl (fun e17 (fe17 : e17 = (h3 236 4) + 1) => ?_)
        refine wr_pf0 (k0 := 236) (x := e17) (bl := 0) (bh := 800) (nx := 30) (r1 := 11) (r2 := 4) (r3 := 0) rfl (by decide) rfl ⟨rfl, rfl⟩ rfl rfl g3 rfl (by omega) (fun h18 g18 w18 u18 => ?_)
        have F19 := F4.then rfl u18
        have F20 := u3.then rfl u18
        refine wi_goto (nx := 33) (r1 := 0) (r2 := 0) (r3 := 0) rfl ?_
        have e21 : h18 236 4 = e17 := w18
        have e22 : h18 236 3 = h 236 3 := ((u18 236 3 rfl).trans (u3 236 3 rfl))
        exact I3 h18 ⟨g18, F19, F20, (show ((h18 236 4) ≤ (h18 236 3)) ∧ ((h 236 4) ≤ (h18 236 4)) by omega)⟩ (show ((h18 236 3) - (h18 236 4)).toNat < ((h3 236 3) - (h3 236 4)).toNat by omega)
-- method 214: Model.beginsText()V
set_option maxRecDepth 100000 in
set_option maxHeartbeats 100000000 in
theorem ct_214_236 {L : Nat} {xs : Nat → Int32} {d b c : Nat} {h : hp} {cr : Nat → Nat → Option Nat} {Q : hp_Q} (hcr : CR cr)  (g : GI h)    (k : ∀ (h2 : hp) , GI h2 → FR [(236, 236, some (2, 2)), (236, 236, some (3, 3)), (236, 236, some (4, 4)), (236, 236, some (5, 5)), (236, 236, some (6, 6)), (236, 236, some (7, 7)), (236, 236, some (8, 8)), (236, 236, some (9, 9)), (236, 236, some (12, 12))] h h2 → (h2 236 8 = 0) → (h2 236 4 ≤ h2 236 3) → (h2 236 2 = 0) → Q (.inl none) (hp_w h2 cr) b c) : wp (md_xa (L, xs)) (d + 2) 214 (0, [(0, .ref 236)], [], hp_w h cr, b, c) Q := by
  have F0 : FR [(236, 236, some (2, 2)), (236, 236, some (3, 3)), (236, 236, some (4, 4)), (236, 236, some (5, 5)), (236, 236, some (6, 6)), (236, 236, some (7, 7)), (236, 236, some (8, 8)), (236, 236, some (9, 9)), (236, 236, some (12, 12))] h h := FR.refl
  refine wi_aload_n (i := 0) (x := 236) (nx := 1) (r1 := 0) (r2 := 0) (r3 := 0) rfl rfl ?_
  refine wi_aload_n (i := 0) (x := 236) (nx := 2) (r1 := 0) (r2 := 0) (r3 := 0) rfl rfl ?_
  have b1 := gi_b (lo := 0) (hi := 800) g 236 2 rfl
  refine wr_gi0 (k0 := 236) (x := h 236 2) (nx := 5) (r1 := 11) (r2 := 2) (r3 := 0) rfl rfl (by decide) rfl ⟨rfl, rfl⟩ rfl rfl ?_
  refine wr_pf0 (k0 := 236) (x := h 236 2) (bl := 0) (bh := 800) (nx := 8) (r1 := 11) (r2 := 3) (r3 := 0) rfl (by decide) rfl ⟨rfl, rfl⟩ rfl rfl g rfl (by omega) (fun h2 g2 w2 u2 => ?_)
  have F3 := F0.then rfl u2
  refine wi_aload_n (i := 0) (x := 236) (nx := 9) (r1 := 0) (r2 := 0) (r3 := 0) rfl rfl ?_
  refine wi_iconst (n := 0) (nx := 10) (r1 := 0) (r2 := 0) (r3 := 0) rfl ?_
  refine wr_pf0 (k0 := 236) (x := 0) (bl := 0) (bh := 800) (nx := 13) (r1 := 11) (r2 := 2) (r3 := 0) rfl (by decide) rfl ⟨rfl, rfl⟩ rfl rfl g2 rfl (by omega) (fun h4 g4 w4 u4 => ?_)
  have F5 := F3.then rfl u4
  refine wi_aload_n (i := 0) (x := 236) (nx := 14) (r1 := 0) (r2 := 0) (r3 := 0) rfl rfl ?_
  refine wi_iconst (n := 0) (nx := 15) (r1 := 0) (r2 := 0) (r3 := 0) rfl ?_
  refine wr_pf0 (k0 := 236) (x := 0) (bl := 0) (bh := 800) (nx := 18) (r1 := 11) (r2 := 4) (r3 := 0) rfl (by decide) rfl ⟨rfl, rfl⟩ rfl rfl g4 rfl (by omega) (fun h6 g6 w6 u6 => ?_)
  have F7 := F5.then rfl u6
  refine wi_aload_n (i := 0) (x := 236) (nx := 19) (r1 := 0) (r2 := 0) (r3 := 0) rfl rfl ?_
  refine wi_iconst (n := 0) (nx := 20) (r1 := 0) (r2 := 0) (r3 := 0) rfl ?_
  refine wr_pf0 (k0 := 236) (x := 0) (bl := 0) (bh := 5) (nx := 23) (r1 := 11) (r2 := 8) (r3 := 0) rfl (by decide) rfl ⟨rfl, rfl⟩ rfl rfl g6 rfl (by omega) (fun h8 g8 w8 u8 => ?_)
  have F9 := F7.then rfl u8
  refine wi_aload_n (i := 0) (x := 236) (nx := 24) (r1 := 0) (r2 := 0) (r3 := 0) rfl rfl ?_
  refine wi_iconst (n := (-1)) (nx := 25) (r1 := 0) (r2 := 0) (r3 := 0) rfl ?_
  refine wr_pf0 (k0 := 236) (x := -1) (bl := -2147483648) (bh := 2147483647) (nx := 28) (r1 := 11) (r2 := 9) (r3 := 0) rfl (by decide) rfl ⟨rfl, rfl⟩ rfl rfl g8 rfl (by omega) (fun h10 g10 w10 u10 => ?_)
  have F11 := F9.then rfl u10
  refine wi_aload_n (i := 0) (x := 236) (nx := 29) (r1 := 0) (r2 := 0) (r3 := 0) rfl rfl ?_
  refine wr_V (k0 := 236) (rest := []) (as := [.ref 236]) (nx := 32) (r1 := 215) (r2 := 0) (r3 := 11) rfl rfl rfl (of_decide_eq_true rfl) rfl rfl (by decide) rfl rfl (of_decide_eq_true rfl) (of_decide_eq_true rfl) ?_
  have e13 : h10 236 4 = 0 := ((u10 236 4 rfl).trans ((u8 236 4 rfl).trans w6))
  have e14 : h10 236 3 = h 236 2 := ((u10 236 3 rfl).trans ((u8 236 3 rfl).trans ((u6 236 3 rfl).trans ((u4 236 3 rfl).trans w2))))
  refine ct_215_236 hcr  g10   (show (h10 236 4) ≤ (h10 236 3) by omega) (fun h12 g12 u12 (p12_0 : (h10 236 4) ≤ (h12 236 4)) (p12_1 : (h12 236 4) ≤ (h10 236 3)) (p12_2 : (h12 236 6) = 0 ∨ (h10 236 4) + 1 ≤ (h12 236 4)) => ?_)
  have F15 := F11.then (by decide +kernel) u12
  have b16 := gi_b (lo := 0) (hi := 800) g12 236 4 rfl
  have b17 := gi_b (lo := 0) (hi := 4) g12 236 6 rfl
  refine wk_n ?_
  refine wi_return (nx := 33) (r1 := 0) (r2 := 0) (r3 := 0) rfl rfl ?_
  have e18 : h12 236 8 = 0 := ((u12 236 8 rfl).trans ((u10 236 8 rfl).trans w8))
  have e19 : h12 236 3 = h 236 2 := ((u12 236 3 rfl).trans ((u10 236 3 rfl).trans ((u8 236 3 rfl).trans ((u6 236 3 rfl).trans ((u4 236 3 rfl).trans w2)))))
  have e20 : h12 236 2 = 0 := ((u12 236 2 rfl).trans ((u10 236 2 rfl).trans ((u8 236 2 rfl).trans ((u6 236 2 rfl).trans w4))))
  exact k h12 g12 F15 (show (h12 236 8) = 0 by omega) (show (h12 236 4) ≤ (h12 236 3) by omega) (show (h12 236 2) = 0 by omega)
