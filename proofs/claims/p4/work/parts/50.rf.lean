-- method 263: Model.move(I)I
set_option maxRecDepth 100000 in
set_option maxHeartbeats 100000000 in
theorem ct_263_236 {L : Nat} {xs : Nat → Int32} {d b c : Nat} {h : hp} {cr : Nat → Nat → Option Nat} {Q : hp_Q} (hcr : CR cr)  (g : GI h) (a0 : Int) (q0_ : -2147483648 ≤ a0 ∧ a0 ≤ 2147483647)  (k : ∀ (h2 : hp) (z0 : Int) , GI h2 → FR [(236, 236, some (0, 0))] h h2 → (-12 ≤ z0 ∧ z0 ≤ 11) → Q (.inl (some (vi z0))) (hp_w h2 cr) b c) : wp (md_xa (L, xs)) (d + 2) 263 (0, [(0, .ref 236), (1, vi a0)], [], hp_w h cr, b, c) Q := by
  have F0 : FR [(236, 236, some (0, 0))] h h := FR.refl
  refine wi_aload_n (i := 0) (x := 236) (nx := 1) (r1 := 0) (r2 := 0) (r3 := 0) rfl rfl ?_
  refine wi_aload_n (i := 0) (x := 236) (nx := 2) (r1 := 0) (r2 := 0) (r3 := 0) rfl rfl ?_
  refine wi_iload_n (i := 1) (e := a0) (nx := 3) (r1 := 0) (r2 := 0) (r3 := 0) rfl rfl ?_
  refine wr_V (k0 := 236) (rest := [.ref 236]) (as := [.ref 236, vi a0]) (nx := 6) (r1 := 244) (r2 := 1) (r3 := 11) rfl rfl rfl (of_decide_eq_true rfl) rfl rfl (by decide) rfl rfl (of_decide_eq_true rfl) (of_decide_eq_true rfl) ?_
  refine wi_iload_n (i := 1) (e := a0) (nx := 1) (r1 := 0) (r2 := 0) (r3 := 0) rfl rfl ?_
  refine wi_i2l (nx := 2) (r1 := 0) (r2 := 0) (r3 := 0) rfl (by omega) ?_
  refine wi_lconst (n := 0) (e := 0) (nx := 3) (r1 := 0) (r2 := 0) (r3 := 0) rfl (by decide) ?_
  refine wi_aload_n (i := 0) (x := 236) (nx := 4) (r1 := 0) (r2 := 0) (r3 := 0) rfl rfl ?_
  refine wr_gr (k0 := 236) (x := 238) (nx := 7) (r1 := 11) (r2 := 13) (r3 := 0) rfl rfl (by decide) rfl ⟨rfl, rfl⟩ rfl ?_
  refine wi_iconst (n := 2) (nx := 8) (r1 := 0) (r2 := 0) (r3 := 0) rfl ?_
  have b1 := gi_b (lo := 0) (hi := 12) g 238 2 rfl
  refine wr_ia (k0 := 238) (a := 2) (f := 2) (x := h 238 2) (nx := 9) (r1 := 0) (r2 := 0) (r3 := 0) rfl (by decide) rfl (by omega) (by omega) (by decide) rfl ?_
  refine wi_iconst (n := 1) (nx := 10) (r1 := 0) (r2 := 0) (r3 := 0) rfl ?_
  refine wr_sub (nx := 11) (r1 := 0) (r2 := 0) (r3 := 0) rfl (fun e2 (fe2 : e2 = (h 238 2) - 1) => ?_)
  refine wi_i2l (nx := 12) (r1 := 0) (r2 := 0) (r3 := 0) rfl (by omega) ?_
  refine wi_S (rest := []) (as := [vl a0, vl 0, vl e2]) (nx := 15) (r1 := 210) (r2 := 19) (r3 := 0) rfl rfl rfl (of_decide_eq_true rfl) rfl rfl (of_decide_eq_true rfl) (of_decide_eq_true rfl) ?_
  refine wi_lload_n (i := 0) (e := a0) (nx := 1) (r1 := 0) (r2 := 0) (r3 := 0) rfl rfl ?_
  refine wi_lload_n (i := 2) (e := 0) (nx := 2) (r1 := 0) (r2 := 0) (r3 := 0) rfl rfl ?_
  refine wi_lcmp (a := a0) (e := 0) (nx := 3) (r1 := 0) (r2 := 0) (r3 := 0) rfl (by omega) (by omega) (fun r3 (fr3 : (r3 = -1 ∧ a0 < 0) ∨ (r3 = 0 ∧ a0 = 0) ∨ (r3 = 1 ∧ 0 < a0)) => ?_)
  refine wi_if (cd := .lt) (nx := 6) (r1 := 17) (r2 := 0) (r3 := 0) rfl (by omega) (fun (q4 : r3 < 0) => ?_) (fun (q4 : ¬ (r3 < 0)) => ?_)
  ·
    refine wi_iconst (n := 0) (nx := 18) (r1 := 0) (r2 := 0) (r3 := 0) rfl ?_
    refine wi_zreturn (nx := 19) (r1 := 0) (r2 := 0) (r3 := 0) rfl rfl (by omega) ?_
    refine wk_i ?_
    refine wi_zreturn (nx := 16) (r1 := 0) (r2 := 0) (r3 := 0) rfl rfl (by omega) ?_
    refine wk_i ?_
    refine wi_if (cd := .ne) (nx := 9) (r1 := 13) (r2 := 0) (r3 := 0) rfl (by omega) (fun (q5 : 0 ≠ 0) => by exfalso; omega) (fun (q5 : ¬ (0 ≠ 0)) => ?_)
    refine wi_iconst (n := 1) (nx := 10) (r1 := 0) (r2 := 0) (r3 := 0) rfl ?_
    refine wi_goto (nx := 13) (r1 := 32) (r2 := 0) (r3 := 0) rfl ?_
    refine wr_pf0 (k0 := 236) (x := 1) (bl := 0) (bh := 2) (nx := 35) (r1 := 11) (r2 := 0) (r3 := 0) rfl (by decide) rfl ⟨rfl, rfl⟩ rfl rfl g rfl (by omega) (fun h6 g6 w6 u6 => ?_)
    have F7 := F0.then rfl u6
    refine wi_aload_n (i := 0) (x := 236) (nx := 36) (r1 := 0) (r2 := 0) (r3 := 0) rfl rfl ?_
    refine wr_gi0 (k0 := 236) (x := 1) (nx := 39) (r1 := 11) (r2 := 0) (r3 := 0) rfl rfl (by decide) rfl ⟨rfl, rfl⟩ rfl w6 ?_
    refine wi_if (cd := .le) (nx := 42) (r1 := 46) (r2 := 0) (r3 := 0) rfl (by omega) (fun (q8 : 1 ≤ 0) => by exfalso; omega) (fun (q8 : ¬ (1 ≤ 0)) => ?_)
    refine wi_iconst (n := 0) (nx := 43) (r1 := 0) (r2 := 0) (r3 := 0) rfl ?_
    refine wi_goto (nx := 46) (r1 := 53) (r2 := 0) (r3 := 0) rfl ?_
    refine wi_ireturn (nx := 54) (r1 := 0) (r2 := 0) (r3 := 0) rfl rfl ?_
    exact k h6 0 g6 F7 (by omega)
  ·
    refine wi_lload_n (i := 0) (e := a0) (nx := 7) (r1 := 0) (r2 := 0) (r3 := 0) rfl rfl ?_
    refine wi_lload (i := 4) (e := e2) (nx := 9) (r1 := 0) (r2 := 0) (r3 := 0) rfl rfl ?_
    refine wi_lcmp (a := a0) (e := e2) (nx := 10) (r1 := 0) (r2 := 0) (r3 := 0) rfl (by omega) (by omega) (fun r5 (fr5 : (r5 = -1 ∧ a0 < e2) ∨ (r5 = 0 ∧ a0 = e2) ∨ (r5 = 1 ∧ e2 < a0)) => ?_)
    refine wi_if (cd := .gt) (nx := 13) (r1 := 17) (r2 := 0) (r3 := 0) rfl (by omega) (fun (q6 : 0 < r5) => ?_) (fun (q6 : ¬ (0 < r5)) => ?_)
    ·
      refine wi_iconst (n := 0) (nx := 18) (r1 := 0) (r2 := 0) (r3 := 0) rfl ?_
      refine wi_zreturn (nx := 19) (r1 := 0) (r2 := 0) (r3 := 0) rfl rfl (by omega) ?_
      refine wk_i ?_
      refine wi_zreturn (nx := 16) (r1 := 0) (r2 := 0) (r3 := 0) rfl rfl (by omega) ?_
      refine wk_i ?_
      refine wi_if (cd := .ne) (nx := 9) (r1 := 13) (r2 := 0) (r3 := 0) rfl (by omega) (fun (q7 : 0 ≠ 0) => by exfalso; omega) (fun (q7 : ¬ (0 ≠ 0)) => ?_)
      refine wi_iconst (n := 1) (nx := 10) (r1 := 0) (r2 := 0) (r3 := 0) rfl ?_
      refine wi_goto (nx := 13) (r1 := 32) (r2 := 0) (r3 := 0) rfl ?_
      refine wr_pf0 (k0 := 236) (x := 1) (bl := 0) (bh := 2) (nx := 35) (r1 := 11) (r2 := 0) (r3 := 0) rfl (by decide) rfl ⟨rfl, rfl⟩ rfl rfl g rfl (by omega) (fun h8 g8 w8 u8 => ?_)
      have F9 := F0.then rfl u8
      refine wi_aload_n (i := 0) (x := 236) (nx := 36) (r1 := 0) (r2 := 0) (r3 := 0) rfl rfl ?_
      refine wr_gi0 (k0 := 236) (x := 1) (nx := 39) (r1 := 11) (r2 := 0) (r3 := 0) rfl rfl (by decide) rfl ⟨rfl, rfl⟩ rfl w8 ?_
      refine wi_if (cd := .le) (nx := 42) (r1 := 46) (r2 := 0) (r3 := 0) rfl (by omega) (fun (q10 : 1 ≤ 0) => by exfalso; omega) (fun (q10 : ¬ (1 ≤ 0)) => ?_)
      refine wi_iconst (n := 0) (nx := 43) (r1 := 0) (r2 := 0) (r3 := 0) rfl ?_
      refine wi_goto (nx := 46) (r1 := 53) (r2 := 0) (r3 := 0) rfl ?_
      refine wi_ireturn (nx := 54) (r1 := 0) (r2 := 0) (r3 := 0) rfl rfl ?_
      exact k h8 0 g8 F9 (by omega)
    ·
      refine wi_iconst (n := 1) (nx := 14) (r1 := 0) (r2 := 0) (r3 := 0) rfl ?_
      refine wi_goto (nx := 17) (r1 := 18) (r2 := 0) (r3 := 0) rfl ?_
      refine wi_zreturn (nx := 19) (r1 := 0) (r2 := 0) (r3 := 0) rfl rfl (by omega) ?_
      refine wk_i ?_
      refine wi_zreturn (nx := 16) (r1 := 0) (r2 := 0) (r3 := 0) rfl rfl (by omega) ?_
      refine wk_i ?_
      refine wi_if (cd := .ne) (nx := 9) (r1 := 13) (r2 := 0) (r3 := 0) rfl (by omega) (fun (q7 : 1 ≠ 0) => ?_) (fun (q7 : ¬ (1 ≠ 0)) => by exfalso; omega)
      refine wi_aload_n (i := 0) (x := 236) (nx := 14) (r1 := 0) (r2 := 0) (r3 := 0) rfl rfl ?_
      refine wi_iload_n (i := 1) (e := a0) (nx := 15) (r1 := 0) (r2 := 0) (r3 := 0) rfl rfl ?_
      refine wr_V (k0 := 236) (rest := [.ref 236]) (as := [.ref 236, vi a0]) (nx := 18) (r1 := 253) (r2 := 1) (r3 := 11) rfl rfl rfl (of_decide_eq_true rfl) rfl rfl (by decide) rfl rfl (of_decide_eq_true rfl) (of_decide_eq_true rfl) ?_
      refine wi_aload_n (i := 0) (x := 236) (nx := 1) (r1 := 0) (r2 := 0) (r3 := 0) rfl rfl ?_
      refine wi_bipush (n := 107) (nx := 3) (r1 := 0) (r2 := 0) (r3 := 0) rfl (by decide) ?_
      refine wi_aload_n (i := 0) (x := 236) (nx := 4) (r1 := 0) (r2 := 0) (r3 := 0) rfl rfl ?_
      refine wr_gr (k0 := 236) (x := 238) (nx := 7) (r1 := 11) (r2 := 13) (r3 := 0) rfl rfl (by decide) rfl ⟨rfl, rfl⟩ rfl ?_
      refine wi_bipush (n := 106) (nx := 9) (r1 := 0) (r2 := 0) (r3 := 0) rfl (by decide) ?_
      have b8 := gi_b (lo := 0) (hi := 12) g 238 106 rfl
      refine wr_ia (k0 := 238) (a := 106) (f := 106) (x := h 238 106) (nx := 10) (r1 := 0) (r2 := 0) (r3 := 0) rfl (by decide) rfl (by omega) (by omega) (by decide) rfl ?_
      refine wi_iload_n (i := 1) (e := a0) (nx := 11) (r1 := 0) (r2 := 0) (r3 := 0) rfl rfl ?_
      refine wr_V (k0 := 236) (rest := []) (as := [.ref 236, vi 107, vi (h 238 106), vi a0]) (nx := 14) (r1 := 254) (r2 := 3) (r3 := 11) rfl rfl rfl (of_decide_eq_true rfl) rfl rfl (by decide) rfl rfl (of_decide_eq_true rfl) (of_decide_eq_true rfl) ?_
      refine wi_iconst (n := 0) (nx := 1) (r1 := 0) (r2 := 0) (r3 := 0) rfl ?_
      refine wi_istore (i := 4) (e := 0) (lo2 := [(4, vi 0), (0, .ref 236), (1, vi 107), (2, vi (h 238 106)), (3, vi a0)]) (nx := 3) (r1 := 0) (r2 := 0) (r3 := 0) rfl rfl ?_
      refine wp.lo (lo := [(0, .ref 236), (1, vi 107), (2, vi (h 238 106)), (3, vi a0), (4, vi 0)]) ⟨rfl, rfl, rfl, rfl, rfl, trivial⟩ rfl ?_
      refine wl_1 (fun x9 h10 => h = h10 ∧ ((0 ≤ x9 ∧ x9 ≤ 12))) (fun x9 h10 => ((12 : Int) + 1 - x9).toNat) (fun x9 h10 => (3, [(0, .ref 236), (1, vi 107), (2, vi (h 238 106)), (3, vi a0), (4, vi x9)], [], hp_w h10 cr, b, c)) ?_ 0 h ⟨rfl, (show (0 ≤ 0 ∧ 0 ≤ 12) by omega)⟩
      intro x9 h10 ⟨e10, f10⟩ I10
      subst e10
      refine wi_iload (i := 4) (e := x9) (nx := 5) (r1 := 0) (r2 := 0) (r3 := 0) rfl rfl ?_
      refine wi_iload_n (i := 2) (e := h 238 106) (nx := 6) (r1 := 0) (r2 := 0) (r3 := 0) rfl rfl ?_
      refine wi_icmp (cd := .ge) (nx := 9) (r1 := 31) (r2 := 0) (r3 := 0) rfl (by omega) (by omega) (fun (q12 : (h 238 106) ≤ x9) => ?_) (fun (q12 : ¬ ((h 238 106) ≤ x9)) => ?_)
      ·
        refine wi_iconst (n := (-1)) (nx := 32) (r1 := 0) (r2 := 0) (r3 := 0) rfl ?_
        refine wi_ireturn (nx := 33) (r1 := 0) (r2 := 0) (r3 := 0) rfl rfl ?_
        refine wk_i ?_
        refine wi_ireturn (nx := 15) (r1 := 0) (r2 := 0) (r3 := 0) rfl rfl ?_
        refine wk_i ?_
        refine wi_iconst (n := (-1)) (nx := 19) (r1 := 0) (r2 := 0) (r3 := 0) rfl ?_
        refine wi_icmp (cd := .ne) (nx := 22) (r1 := 26) (r2 := 0) (r3 := 0) rfl (by omega) (by omega) (fun (q13 : (-1) ≠ (-1)) => by exfalso; omega) (fun (q13 : ¬ ((-1) ≠ (-1))) => ?_)
        refine wi_iconst (n := 1) (nx := 23) (r1 := 0) (r2 := 0) (r3 := 0) rfl ?_
        refine wi_goto (nx := 26) (r1 := 27) (r2 := 0) (r3 := 0) rfl ?_
        refine wi_S (rest := [.ref 236]) (as := [vi 1]) (nx := 30) (r1 := 207) (r2 := 17) (r3 := 0) rfl rfl rfl (of_decide_eq_true rfl) rfl rfl (of_decide_eq_true rfl) (of_decide_eq_true rfl) ?_
        refine wi_iload_n (i := 0) (e := 1) (nx := 1) (r1 := 0) (r2 := 0) (r3 := 0) rfl rfl ?_
        refine wi_if (cd := .eq) (nx := 4) (r1 := 8) (r2 := 0) (r3 := 0) rfl (by omega) (fun (q14 : 1 = 0) => by exfalso; omega) (fun (q14 : ¬ (1 = 0)) => ?_)
        refine wi_iconst (n := 1) (nx := 5) (r1 := 0) (r2 := 0) (r3 := 0) rfl ?_
        refine wi_goto (nx := 8) (r1 := 9) (r2 := 0) (r3 := 0) rfl ?_
        refine wi_ireturn (nx := 10) (r1 := 0) (r2 := 0) (r3 := 0) rfl rfl ?_
        refine wk_i ?_
        refine wi_iconst (n := 2) (nx := 31) (r1 := 0) (r2 := 0) (r3 := 0) rfl ?_
        refine wr_mulL (2) (nx := 32) (r1 := 0) (r2 := 0) (r3 := 0) rfl (by decide) ?_
        refine wr_pf0 (k0 := 236) (x := 2) (bl := 0) (bh := 2) (nx := 35) (r1 := 11) (r2 := 0) (r3 := 0) rfl (by decide) rfl ⟨rfl, rfl⟩ rfl rfl g rfl (by omega) (fun h15 g15 w15 u15 => ?_)
        have F16 := F0.then rfl u15
        refine wi_aload_n (i := 0) (x := 236) (nx := 36) (r1 := 0) (r2 := 0) (r3 := 0) rfl rfl ?_
        refine wr_gi0 (k0 := 236) (x := 2) (nx := 39) (r1 := 11) (r2 := 0) (r3 := 0) rfl rfl (by decide) rfl ⟨rfl, rfl⟩ rfl w15 ?_
        refine wi_if (cd := .le) (nx := 42) (r1 := 46) (r2 := 0) (r3 := 0) rfl (by omega) (fun (q17 : 2 ≤ 0) => by exfalso; omega) (fun (q17 : ¬ (2 ≤ 0)) => ?_)
        refine wi_iconst (n := 0) (nx := 43) (r1 := 0) (r2 := 0) (r3 := 0) rfl ?_
        refine wi_goto (nx := 46) (r1 := 53) (r2 := 0) (r3 := 0) rfl ?_
        refine wi_ireturn (nx := 54) (r1 := 0) (r2 := 0) (r3 := 0) rfl rfl ?_
        exact k h15 0 g15 F16 (by omega)
      ·
        refine wi_aload_n (i := 0) (x := 236) (nx := 10) (r1 := 0) (r2 := 0) (r3 := 0) rfl rfl ?_
        refine wr_gr (k0 := 236) (x := 238) (nx := 13) (r1 := 11) (r2 := 13) (r3 := 0) rfl rfl (by decide) rfl ⟨rfl, rfl⟩ rfl ?_
        refine wi_iload_n (i := 1) (e := 107) (nx := 14) (r1 := 0) (r2 := 0) (r3 := 0) rfl rfl ?_
        refine wi_iload (i := 4) (e := x9) (nx := 16) (r1 := 0) (r2 := 0) (r3 := 0) rfl rfl ?_
        refine wr_add (nx := 17) (r1 := 0) (r2 := 0) (r3 := 0) rfl (fun e13 (fe13 : e13 = 107 + x9) => ?_)
        obtain ⟨i14, ei14⟩ : ∃ q : Nat, e13 = (q : Int) := ⟨(e13).toNat, by omega⟩
        have b15 := gi_b (lo := 0) (hi := 11) g 238 i14 (gi_rg 107 12 (fun _ => rfl) (by decide +kernel) (by omega))
        refine wr_ia (k0 := 238) (a := e13) (f := i14) (x := h 238 i14) (nx := 18) (r1 := 0) (r2 := 0) (r3 := 0) rfl (by decide) rfl (by omega) (by omega) (by decide) rfl ?_
        refine wi_iload_n (i := 3) (e := a0) (nx := 19) (r1 := 0) (r2 := 0) (r3 := 0) rfl rfl ?_
        refine wi_icmp (cd := .ne) (nx := 22) (r1 := 25) (r2 := 0) (r3 := 0) rfl (by omega) (by omega) (fun (q16 : (h 238 i14) ≠ a0) => ?_) (fun (q16 : ¬ ((h 238 i14) ≠ a0)) => ?_)
        ·
          refine wr_iinc (i := 4) (n := 1) (v := x9) (fun e17 => [(4, vi e17), (0, .ref 236), (1, vi 107), (2, vi (h 238 106)), (3, vi a0)]) (nx := 28) (r1 := 0) (r2 := 0) (r3 := 0) rfl rfl (fun _ => rfl) (fun e17 (fe17 : e17 = x9 + 1) => ?_)
          refine wi_goto (nx := 31) (r1 := 3) (r2 := 0) (r3 := 0) rfl ?_
          refine wp.lo (lo := [(0, .ref 236), (1, vi 107), (2, vi (h 238 106)), (3, vi a0), (4, vi e17)]) ⟨rfl, rfl, rfl, rfl, rfl, trivial⟩ rfl ?_
          exact I10 e17 h ⟨rfl, (show (0 ≤ e17 ∧ e17 ≤ 12) by omega)⟩ (show ((12 : Int) + 1 - e17).toNat < ((12 : Int) + 1 - x9).toNat by omega)
        ·
          refine wi_iload (i := 4) (e := x9) (nx := 24) (r1 := 0) (r2 := 0) (r3 := 0) rfl rfl ?_
          refine wi_ireturn (nx := 25) (r1 := 0) (r2 := 0) (r3 := 0) rfl rfl ?_
          refine wk_i ?_
          refine wi_ireturn (nx := 15) (r1 := 0) (r2 := 0) (r3 := 0) rfl rfl ?_
          refine wk_i ?_
          refine wi_iconst (n := (-1)) (nx := 19) (r1 := 0) (r2 := 0) (r3 := 0) rfl ?_
          refine wi_icmp (cd := .ne) (nx := 22) (r1 := 26) (r2 := 0) (r3 := 0) rfl (by omega) (by omega) (fun (q17 : x9 ≠ (-1)) => ?_) (fun (q17 : ¬ (x9 ≠ (-1))) => by exfalso; omega)
          refine wi_iconst (n := 0) (nx := 27) (r1 := 0) (r2 := 0) (r3 := 0) rfl ?_
          refine wi_S (rest := [.ref 236]) (as := [vi 0]) (nx := 30) (r1 := 207) (r2 := 17) (r3 := 0) rfl rfl rfl (of_decide_eq_true rfl) rfl rfl (of_decide_eq_true rfl) (of_decide_eq_true rfl) ?_
          refine wi_iload_n (i := 0) (e := 0) (nx := 1) (r1 := 0) (r2 := 0) (r3 := 0) rfl rfl ?_
          refine wi_if (cd := .eq) (nx := 4) (r1 := 8) (r2 := 0) (r3 := 0) rfl (by omega) (fun (q18 : 0 = 0) => ?_) (fun (q18 : ¬ (0 = 0)) => by exfalso; omega)
          refine wi_iconst (n := 0) (nx := 9) (r1 := 0) (r2 := 0) (r3 := 0) rfl ?_
          refine wi_ireturn (nx := 10) (r1 := 0) (r2 := 0) (r3 := 0) rfl rfl ?_
          refine wk_i ?_
          refine wi_iconst (n := 2) (nx := 31) (r1 := 0) (r2 := 0) (r3 := 0) rfl ?_
          refine wr_mulL (0) (nx := 32) (r1 := 0) (r2 := 0) (r3 := 0) rfl (by decide) ?_
          refine wr_pf0 (k0 := 236) (x := 0) (bl := 0) (bh := 2) (nx := 35) (r1 := 11) (r2 := 0) (r3 := 0) rfl (by decide) rfl ⟨rfl, rfl⟩ rfl rfl g rfl (by omega) (fun h19 g19 w19 u19 => ?_)
          have F20 := F0.then rfl u19
          refine wi_aload_n (i := 0) (x := 236) (nx := 36) (r1 := 0) (r2 := 0) (r3 := 0) rfl rfl ?_
          refine wr_gi0 (k0 := 236) (x := 0) (nx := 39) (r1 := 11) (r2 := 0) (r3 := 0) rfl rfl (by decide) rfl ⟨rfl, rfl⟩ rfl w19 ?_
          refine wi_if (cd := .le) (nx := 42) (r1 := 46) (r2 := 0) (r3 := 0) rfl (by omega) (fun (q21 : 0 ≤ 0) => ?_) (fun (q21 : ¬ (0 ≤ 0)) => by exfalso; omega)
          refine wi_aload_n (i := 0) (x := 236) (nx := 47) (r1 := 0) (r2 := 0) (r3 := 0) rfl rfl ?_
          refine wi_iload_n (i := 1) (e := a0) (nx := 48) (r1 := 0) (r2 := 0) (r3 := 0) rfl rfl ?_
          refine wr_V (k0 := 236) (rest := []) (as := [.ref 236, vi a0]) (nx := 51) (r1 := 253) (r2 := 1) (r3 := 11) rfl rfl rfl (of_decide_eq_true rfl) rfl rfl (by decide) rfl rfl (of_decide_eq_true rfl) (of_decide_eq_true rfl) ?_
          refine wi_aload_n (i := 0) (x := 236) (nx := 1) (r1 := 0) (r2 := 0) (r3 := 0) rfl rfl ?_
          refine wi_bipush (n := 107) (nx := 3) (r1 := 0) (r2 := 0) (r3 := 0) rfl (by decide) ?_
          refine wi_aload_n (i := 0) (x := 236) (nx := 4) (r1 := 0) (r2 := 0) (r3 := 0) rfl rfl ?_
          refine wr_gr (k0 := 236) (x := 238) (nx := 7) (r1 := 11) (r2 := 13) (r3 := 0) rfl rfl (by decide) rfl ⟨rfl, rfl⟩ rfl ?_
          refine wi_bipush (n := 106) (nx := 9) (r1 := 0) (r2 := 0) (r3 := 0) rfl (by decide) ?_
          refine wr_ia (k0 := 238) (a := 106) (f := 106) (x := h 238 106) (nx := 10) (r1 := 0) (r2 := 0) (r3 := 0) rfl (by decide) rfl (by omega) (by omega) (by decide) (u19 238 106 rfl) ?_
          refine wi_iload_n (i := 1) (e := a0) (nx := 11) (r1 := 0) (r2 := 0) (r3 := 0) rfl rfl ?_
          refine wr_V (k0 := 236) (rest := []) (as := [.ref 236, vi 107, vi (h 238 106), vi a0]) (nx := 14) (r1 := 254) (r2 := 3) (r3 := 11) rfl rfl rfl (of_decide_eq_true rfl) rfl rfl (by decide) rfl rfl (of_decide_eq_true rfl) (of_decide_eq_true rfl) ?_
          refine wi_iconst (n := 0) (nx := 1) (r1 := 0) (r2 := 0) (r3 := 0) rfl ?_
          refine wi_istore (i := 4) (e := 0) (lo2 := [(4, vi 0), (0, .ref 236), (1, vi 107), (2, vi (h 238 106)), (3, vi a0)]) (nx := 3) (r1 := 0) (r2 := 0) (r3 := 0) rfl rfl ?_
          refine wp.lo (lo := [(0, .ref 236), (1, vi 107), (2, vi (h 238 106)), (3, vi a0), (4, vi 0)]) ⟨rfl, rfl, rfl, rfl, rfl, trivial⟩ rfl ?_
          refine wl_1 (fun x22 h23 => h19 = h23 ∧ ((0 ≤ x22 ∧ x22 ≤ 12))) (fun x22 h23 => ((12 : Int) + 1 - x22).toNat) (fun x22 h23 => (3, [(0, .ref 236), (1, vi 107), (2, vi (h 238 106)), (3, vi a0), (4, vi x22)], [], hp_w h23 cr, b, c)) ?_ 0 h19 ⟨rfl, (show (0 ≤ 0 ∧ 0 ≤ 12) by omega)⟩
          intro x22 h23 ⟨e23, f23⟩ I23
          subst e23
          refine wi_iload (i := 4) (e := x22) (nx := 5) (r1 := 0) (r2 := 0) (r3 := 0) rfl rfl ?_
          refine wi_iload_n (i := 2) (e := h 238 106) (nx := 6) (r1 := 0) (r2 := 0) (r3 := 0) rfl rfl ?_
          refine wi_icmp (cd := .ge) (nx := 9) (r1 := 31) (r2 := 0) (r3 := 0) rfl (by omega) (by omega) (fun (q25 : (h 238 106) ≤ x22) => ?_) (fun (q25 : ¬ ((h 238 106) ≤ x22)) => ?_)
          ·
            refine wi_iconst (n := (-1)) (nx := 32) (r1 := 0) (r2 := 0) (r3 := 0) rfl ?_
            refine wi_ireturn (nx := 33) (r1 := 0) (r2 := 0) (r3 := 0) rfl rfl ?_
            refine wk_i ?_
            refine wi_ireturn (nx := 15) (r1 := 0) (r2 := 0) (r3 := 0) rfl rfl ?_
            refine wk_i ?_
            refine wi_iload_n (i := 1) (e := a0) (nx := 52) (r1 := 0) (r2 := 0) (r3 := 0) rfl rfl ?_
            refine wr_sub (nx := 53) (r1 := 0) (r2 := 0) (r3 := 0) rfl (fun e26 (fe26 : e26 = (-1) - a0) => ?_)
            refine wi_ireturn (nx := 54) (r1 := 0) (r2 := 0) (r3 := 0) rfl rfl ?_
            exact k h19 e26 g19 F20 (by omega)
          ·
            refine wi_aload_n (i := 0) (x := 236) (nx := 10) (r1 := 0) (r2 := 0) (r3 := 0) rfl rfl ?_
            refine wr_gr (k0 := 236) (x := 238) (nx := 13) (r1 := 11) (r2 := 13) (r3 := 0) rfl rfl (by decide) rfl ⟨rfl, rfl⟩ rfl ?_
            refine wi_iload_n (i := 1) (e := 107) (nx := 14) (r1 := 0) (r2 := 0) (r3 := 0) rfl rfl ?_
            refine wi_iload (i := 4) (e := x22) (nx := 16) (r1 := 0) (r2 := 0) (r3 := 0) rfl rfl ?_
            refine wr_add (nx := 17) (r1 := 0) (r2 := 0) (r3 := 0) rfl (fun e26 (fe26 : e26 = 107 + x22) => ?_)
            obtain ⟨i27, ei27⟩ : ∃ q : Nat, e26 = (q : Int) := ⟨(e26).toNat, by omega⟩
            have b28 := gi_b (lo := 0) (hi := 11) g 238 i27 (gi_rg 107 12 (fun _ => rfl) (by decide +kernel) (by omega))
            refine wr_ia (k0 := 238) (a := e26) (f := i27) (x := h 238 i27) (nx := 18) (r1 := 0) (r2 := 0) (r3 := 0) rfl (by decide) rfl (by omega) (by omega) (by decide) (u19 238 i27 (fn_a (by omega) fn_0)) ?_
            refine wi_iload_n (i := 3) (e := a0) (nx := 19) (r1 := 0) (r2 := 0) (r3 := 0) rfl rfl ?_
            refine wi_icmp (cd := .ne) (nx := 22) (r1 := 25) (r2 := 0) (r3 := 0) rfl (by omega) (by omega) (fun (q29 : (h 238 i27) ≠ a0) => ?_) (fun (q29 : ¬ ((h 238 i27) ≠ a0)) => ?_)
            ·
              refine wr_iinc (i := 4) (n := 1) (v := x22) (fun e30 => [(4, vi e30), (0, .ref 236), (1, vi 107), (2, vi (h 238 106)), (3, vi a0)]) (nx := 28) (r1 := 0) (r2 := 0) (r3 := 0) rfl rfl (fun _ => rfl) (fun e30 (fe30 : e30 = x22 + 1) => ?_)
              refine wi_goto (nx := 31) (r1 := 3) (r2 := 0) (r3 := 0) rfl ?_
              refine wp.lo (lo := [(0, .ref 236), (1, vi 107), (2, vi (h 238 106)), (3, vi a0), (4, vi e30)]) ⟨rfl, rfl, rfl, rfl, rfl, trivial⟩ rfl ?_
              exact I23 e30 h19 ⟨rfl, (show (0 ≤ e30 ∧ e30 ≤ 12) by omega)⟩ (show ((12 : Int) + 1 - e30).toNat < ((12 : Int) + 1 - x22).toNat by omega)
            ·
              refine wi_iload (i := 4) (e := x22) (nx := 24) (r1 := 0) (r2 := 0) (r3 := 0) rfl rfl ?_
              refine wi_ireturn (nx := 25) (r1 := 0) (r2 := 0) (r3 := 0) rfl rfl ?_
              refine wk_i ?_
              refine wi_ireturn (nx := 15) (r1 := 0) (r2 := 0) (r3 := 0) rfl rfl ?_
              refine wk_i ?_
              refine wi_iload_n (i := 1) (e := a0) (nx := 52) (r1 := 0) (r2 := 0) (r3 := 0) rfl rfl ?_
              refine wr_sub (nx := 53) (r1 := 0) (r2 := 0) (r3 := 0) rfl (fun e30 (fe30 : e30 = x22 - a0) => ?_)
              refine wi_ireturn (nx := 54) (r1 := 0) (r2 := 0) (r3 := 0) rfl rfl ?_
              exact k h19 e30 g19 F20 (by omega)
-- method 262: Model.out(I)I
set_option maxRecDepth 100000 in
set_option maxHeartbeats 100000000 in
theorem ct_262_236 {L : Nat} {xs : Nat → Int32} {d b c : Nat} {h : hp} {cr : Nat → Nat → Option Nat} {Q : hp_Q} (hcr : CR cr)  (g : GI h) (a0 : Int) (q0_ : -2147483648 ≤ a0 ∧ a0 ≤ 2147483647)  (k : ∀ (h2 : hp) (z0 : Int) , GI h2 → FR [(236, 236, some (0, 0))] h h2 → (-1 ≤ z0 ∧ z0 ≤ 11) → Q (.inl (some (vi z0))) (hp_w h2 cr) b c) : wp (md_xa (L, xs)) (d + 1) 262 (0, [(0, .ref 236), (1, vi a0)], [], hp_w h cr, b, c) Q := by
  have F0 : FR [(236, 236, some (0, 0))] h h := FR.refl
  refine wi_aload_n (i := 0) (x := 236) (nx := 1) (r1 := 0) (r2 := 0) (r3 := 0) rfl rfl ?_
  refine wi_iconst (n := 0) (nx := 2) (r1 := 0) (r2 := 0) (r3 := 0) rfl ?_
  refine wr_pf0 (k0 := 236) (x := 0) (bl := 0) (bh := 2) (nx := 5) (r1 := 11) (r2 := 0) (r3 := 0) rfl (by decide) rfl ⟨rfl, rfl⟩ rfl rfl g rfl (by omega) (fun h1 g1 w1 u1 => ?_)
  have F2 := F0.then rfl u1
  refine wi_iload_n (i := 1) (e := a0) (nx := 6) (r1 := 0) (r2 := 0) (r3 := 0) rfl rfl ?_
  refine wi_i2l (nx := 7) (r1 := 0) (r2 := 0) (r3 := 0) rfl (by omega) ?_
  refine wi_lconst (n := 0) (e := 0) (nx := 8) (r1 := 0) (r2 := 0) (r3 := 0) rfl (by decide) ?_
  refine wi_aload_n (i := 0) (x := 236) (nx := 9) (r1 := 0) (r2 := 0) (r3 := 0) rfl rfl ?_
  refine wr_gr (k0 := 236) (x := 238) (nx := 12) (r1 := 11) (r2 := 13) (r3 := 0) rfl rfl (by decide) rfl ⟨rfl, rfl⟩ rfl ?_
  refine wi_bipush (n := 106) (nx := 14) (r1 := 0) (r2 := 0) (r3 := 0) rfl (by decide) ?_
  have b3 := gi_b (lo := 0) (hi := 12) g 238 106 rfl
  refine wr_ia (k0 := 238) (a := 106) (f := 106) (x := h 238 106) (nx := 15) (r1 := 0) (r2 := 0) (r3 := 0) rfl (by decide) rfl (by omega) (by omega) (by decide) (u1 238 106 rfl) ?_
  refine wi_iconst (n := 1) (nx := 16) (r1 := 0) (r2 := 0) (r3 := 0) rfl ?_
  refine wr_sub (nx := 17) (r1 := 0) (r2 := 0) (r3 := 0) rfl (fun e4 (fe4 : e4 = (h 238 106) - 1) => ?_)
  refine wi_i2l (nx := 18) (r1 := 0) (r2 := 0) (r3 := 0) rfl (by omega) ?_
  refine wi_S (rest := []) (as := [vl a0, vl 0, vl e4]) (nx := 21) (r1 := 210) (r2 := 19) (r3 := 0) rfl rfl rfl (of_decide_eq_true rfl) rfl rfl (of_decide_eq_true rfl) (of_decide_eq_true rfl) ?_
  refine wi_lload_n (i := 0) (e := a0) (nx := 1) (r1 := 0) (r2 := 0) (r3 := 0) rfl rfl ?_
  refine wi_lload_n (i := 2) (e := 0) (nx := 2) (r1 := 0) (r2 := 0) (r3 := 0) rfl rfl ?_
  refine wi_lcmp (a := a0) (e := 0) (nx := 3) (r1 := 0) (r2 := 0) (r3 := 0) rfl (by omega) (by omega) (fun r5 (fr5 : (r5 = -1 ∧ a0 < 0) ∨ (r5 = 0 ∧ a0 = 0) ∨ (r5 = 1 ∧ 0 < a0)) => ?_)
  refine wi_if (cd := .lt) (nx := 6) (r1 := 17) (r2 := 0) (r3 := 0) rfl (by omega) (fun (q6 : r5 < 0) => ?_) (fun (q6 : ¬ (r5 < 0)) => ?_)
  ·
    refine wi_iconst (n := 0) (nx := 18) (r1 := 0) (r2 := 0) (r3 := 0) rfl ?_
    refine wi_zreturn (nx := 19) (r1 := 0) (r2 := 0) (r3 := 0) rfl rfl (by omega) ?_
    refine wk_i ?_
    refine wi_if (cd := .eq) (nx := 24) (r1 := 36) (r2 := 0) (r3 := 0) rfl (by omega) (fun (q7 : 0 = 0) => ?_) (fun (q7 : ¬ (0 = 0)) => by exfalso; omega)
    refine wi_iconst (n := (-1)) (nx := 37) (r1 := 0) (r2 := 0) (r3 := 0) rfl ?_
    refine wi_ireturn (nx := 38) (r1 := 0) (r2 := 0) (r3 := 0) rfl rfl ?_
    exact k h1 (-1) g1 F2 (by omega)
  ·
    refine wi_lload_n (i := 0) (e := a0) (nx := 7) (r1 := 0) (r2 := 0) (r3 := 0) rfl rfl ?_
    refine wi_lload (i := 4) (e := e4) (nx := 9) (r1 := 0) (r2 := 0) (r3 := 0) rfl rfl ?_
    refine wi_lcmp (a := a0) (e := e4) (nx := 10) (r1 := 0) (r2 := 0) (r3 := 0) rfl (by omega) (by omega) (fun r7 (fr7 : (r7 = -1 ∧ a0 < e4) ∨ (r7 = 0 ∧ a0 = e4) ∨ (r7 = 1 ∧ e4 < a0)) => ?_)
    refine wi_if (cd := .gt) (nx := 13) (r1 := 17) (r2 := 0) (r3 := 0) rfl (by omega) (fun (q8 : 0 < r7) => ?_) (fun (q8 : ¬ (0 < r7)) => ?_)
    ·
      refine wi_iconst (n := 0) (nx := 18) (r1 := 0) (r2 := 0) (r3 := 0) rfl ?_
      refine wi_zreturn (nx := 19) (r1 := 0) (r2 := 0) (r3 := 0) rfl rfl (by omega) ?_
      refine wk_i ?_
      refine wi_if (cd := .eq) (nx := 24) (r1 := 36) (r2 := 0) (r3 := 0) rfl (by omega) (fun (q9 : 0 = 0) => ?_) (fun (q9 : ¬ (0 = 0)) => by exfalso; omega)
      refine wi_iconst (n := (-1)) (nx := 37) (r1 := 0) (r2 := 0) (r3 := 0) rfl ?_
      refine wi_ireturn (nx := 38) (r1 := 0) (r2 := 0) (r3 := 0) rfl rfl ?_
      exact k h1 (-1) g1 F2 (by omega)
    ·
      refine wi_iconst (n := 1) (nx := 14) (r1 := 0) (r2 := 0) (r3 := 0) rfl ?_
      refine wi_goto (nx := 17) (r1 := 18) (r2 := 0) (r3 := 0) rfl ?_
      refine wi_zreturn (nx := 19) (r1 := 0) (r2 := 0) (r3 := 0) rfl rfl (by omega) ?_
      refine wk_i ?_
      refine wi_if (cd := .eq) (nx := 24) (r1 := 36) (r2 := 0) (r3 := 0) rfl (by omega) (fun (q9 : 1 = 0) => by exfalso; omega) (fun (q9 : ¬ (1 = 0)) => ?_)
      refine wi_aload_n (i := 0) (x := 236) (nx := 25) (r1 := 0) (r2 := 0) (r3 := 0) rfl rfl ?_
      refine wr_gr (k0 := 236) (x := 238) (nx := 28) (r1 := 11) (r2 := 13) (r3 := 0) rfl rfl (by decide) rfl ⟨rfl, rfl⟩ rfl ?_
      refine wi_bipush (n := 107) (nx := 30) (r1 := 0) (r2 := 0) (r3 := 0) rfl (by decide) ?_
      refine wi_iload_n (i := 1) (e := a0) (nx := 31) (r1 := 0) (r2 := 0) (r3 := 0) rfl rfl ?_
      refine wr_add (nx := 32) (r1 := 0) (r2 := 0) (r3 := 0) rfl (fun e10 (fe10 : e10 = 107 + a0) => ?_)
      obtain ⟨i11, ei11⟩ : ∃ q : Nat, e10 = (q : Int) := ⟨(e10).toNat, by omega⟩
      have b12 := gi_b (lo := 0) (hi := 11) g 238 i11 (gi_rg 107 12 (fun _ => rfl) (by decide +kernel) (by omega))
      refine wr_ia (k0 := 238) (a := e10) (f := i11) (x := h 238 i11) (nx := 33) (r1 := 0) (r2 := 0) (r3 := 0) rfl (by decide) rfl (by omega) (by omega) (by decide) (u1 238 i11 (fn_a (by omega) fn_0)) ?_
      refine wi_goto (nx := 36) (r1 := 37) (r2 := 0) (r3 := 0) rfl ?_
      refine wi_ireturn (nx := 38) (r1 := 0) (r2 := 0) (r3 := 0) rfl rfl ?_
      exact k h1 (h 238 i11) g1 F2 (by omega)
-- method 261: Model.outCount()I
set_option maxRecDepth 100000 in
set_option maxHeartbeats 100000000 in
theorem ct_261_236 {L : Nat} {xs : Nat → Int32} {d b c : Nat} {h : hp} {cr : Nat → Nat → Option Nat} {Q : hp_Q} (hcr : CR cr)  (g : GI h)    (k : ∀ (h2 : hp) (z0 : Int) , GI h2 → FR [(236, 236, some (0, 0))] h h2 → (0 ≤ z0 ∧ z0 ≤ 12) → Q (.inl (some (vi z0))) (hp_w h2 cr) b c) : wp (md_xa (L, xs)) d 261 (0, [(0, .ref 236)], [], hp_w h cr, b, c) Q := by
  have F0 : FR [(236, 236, some (0, 0))] h h := FR.refl
  refine wi_aload_n (i := 0) (x := 236) (nx := 1) (r1 := 0) (r2 := 0) (r3 := 0) rfl rfl ?_
  refine wi_iconst (n := 0) (nx := 2) (r1 := 0) (r2 := 0) (r3 := 0) rfl ?_
  refine wr_pf0 (k0 := 236) (x := 0) (bl := 0) (bh := 2) (nx := 5) (r1 := 11) (r2 := 0) (r3 := 0) rfl (by decide) rfl ⟨rfl, rfl⟩ rfl rfl g rfl (by omega) (fun h1 g1 w1 u1 => ?_)
  have F2 := F0.then rfl u1
  refine wi_aload_n (i := 0) (x := 236) (nx := 6) (r1 := 0) (r2 := 0) (r3 := 0) rfl rfl ?_
  refine wr_gr (k0 := 236) (x := 238) (nx := 9) (r1 := 11) (r2 := 13) (r3 := 0) rfl rfl (by decide) rfl ⟨rfl, rfl⟩ rfl ?_
  refine wi_bipush (n := 106) (nx := 11) (r1 := 0) (r2 := 0) (r3 := 0) rfl (by decide) ?_
  have b3 := gi_b (lo := 0) (hi := 12) g 238 106 rfl
  refine wr_ia (k0 := 238) (a := 106) (f := 106) (x := h 238 106) (nx := 12) (r1 := 0) (r2 := 0) (r3 := 0) rfl (by decide) rfl (by omega) (by omega) (by decide) (u1 238 106 rfl) ?_
  refine wi_ireturn (nx := 13) (r1 := 0) (r2 := 0) (r3 := 0) rfl rfl ?_
  exact k h1 (h 238 106) g1 F2 (by omega)
-- method 273: Model.purges()I
set_option maxRecDepth 100000 in
set_option maxHeartbeats 100000000 in
theorem ct_273_236 {L : Nat} {xs : Nat → Int32} {d b c : Nat} {h : hp} {cr : Nat → Nat → Option Nat} {Q : hp_Q} (hcr : CR cr)  (g : GI h)    (k : ∀ (h2 : hp) (z0 : Int) , GI h2 → FR [(236, 236, some (0, 0))] h h2 → (-2147483648 ≤ z0 ∧ z0 ≤ 2147483647) → Q (.inl (some (vi z0))) (hp_w h2 cr) b c) : wp (md_xa (L, xs)) (d + 1) 273 (0, [(0, .ref 236)], [], hp_w h cr, b, c) Q := by
  have F0 : FR [(236, 236, some (0, 0))] h h := FR.refl
  refine wi_aload_n (i := 0) (x := 236) (nx := 1) (r1 := 0) (r2 := 0) (r3 := 0) rfl rfl ?_
  refine wi_bipush (n := 71) (nx := 3) (r1 := 0) (r2 := 0) (r3 := 0) rfl (by decide) ?_
  refine wr_V (k0 := 236) (rest := []) (as := [.ref 236, vi 71]) (nx := 6) (r1 := 269) (r2 := 1) (r3 := 11) rfl rfl rfl (of_decide_eq_true rfl) rfl rfl (by decide) rfl rfl (of_decide_eq_true rfl) (of_decide_eq_true rfl) ?_
  refine wi_aload_n (i := 0) (x := 236) (nx := 1) (r1 := 0) (r2 := 0) (r3 := 0) rfl rfl ?_
  refine wi_iconst (n := 0) (nx := 2) (r1 := 0) (r2 := 0) (r3 := 0) rfl ?_
  refine wr_pf0 (k0 := 236) (x := 0) (bl := 0) (bh := 2) (nx := 5) (r1 := 11) (r2 := 0) (r3 := 0) rfl (by decide) rfl ⟨rfl, rfl⟩ rfl rfl g rfl (by omega) (fun h1 g1 w1 u1 => ?_)
  have F2 := F0.then rfl u1
  refine wi_aload_n (i := 0) (x := 236) (nx := 6) (r1 := 0) (r2 := 0) (r3 := 0) rfl rfl ?_
  refine wr_gr (k0 := 236) (x := 238) (nx := 9) (r1 := 11) (r2 := 13) (r3 := 0) rfl rfl (by decide) rfl ⟨rfl, rfl⟩ rfl ?_
  refine wi_iload_n (i := 1) (e := 71) (nx := 10) (r1 := 0) (r2 := 0) (r3 := 0) rfl rfl ?_
  have b3 := gi_b (lo := -2147483648) (hi := 2147483647) g 238 71 rfl
  refine wr_ia (k0 := 238) (a := 71) (f := 71) (x := h 238 71) (nx := 11) (r1 := 0) (r2 := 0) (r3 := 0) rfl (by decide) rfl (by omega) (by omega) (by decide) (u1 238 71 rfl) ?_
  refine wi_ireturn (nx := 12) (r1 := 0) (r2 := 0) (r3 := 0) rfl rfl ?_
  refine wk_i ?_
  refine wi_ireturn (nx := 7) (r1 := 0) (r2 := 0) (r3 := 0) rfl rfl ?_
  exact k h1 (h 238 71) g1 F2 (by omega)
-- method 215: Model.goOn()V
set_option maxRecDepth 100000 in
set_option maxHeartbeats 100000000 in
theorem ct_215_p146_236_L2_3 {L : Nat} {xs : Nat → Int32} {d b c : Nat} {h : hp} {cr : Nat → Nat → Option Nat} {Q : hp_Q} (hcr : CR cr)  {tB : Nat → Int} {tn tp : Int} (g : GI h)   (pp0 : h 236 4 + 3 ≤ h 236 3) (pp1 : tk_st tB tn tp = h 236 4) (pp2 : h 236 5 = h 236 4) (pp3 : 0 ≤ tp) (pp4 : tp ≤ tn) (pp5 : tp ≤ h 236 4) (pp6 : 48 ≤ h 237 (0 + (h 236 4).toNat)) (pp7 : h 237 (0 + (h 236 4).toNat) ≤ 57) (pp8 : h 236 7 ≤ 999) (xq0 : RefB tB tn h) (xq1 : tk_I tk_dg tB 10 48 3 1 tn (h 236 4) ((h 236 4) + 3) (h 236 7)) (k : ∀ (h2 : hp) , GI h2 → FR [(236, 236, some (4, 4)), (236, 236, some (6, 6))] h h2 → (h 236 4 ≤ h2 236 4) → (h2 236 4 ≤ h 236 3) → ((h2 236 4 = tk_nx tB tn tp ∧ h2 236 5 = tk_st tB tn tp ∧ TKk tB tn tp (h2 236 6) (h2 236 7) (h2 236 12))) → (tp ≤ tk_nx tB tn tp ∧ tk_nx tB tn tp ≤ tn) → Q (.inl none) (hp_w h2 cr) b c) : wp (md_xa (L, xs)) (d + 1) 215 (146, [(0, .ref 236), (2, vi 3)], [], hp_w h cr, b, c) Q := by
  have F0 : FR [(236, 236, some (4, 4)), (236, 236, some (6, 6))] h h := FR.refl
  have tb_1 : h 236 3 = tn := xq0.2.1
  have tb_2 : 0 ≤ tn ∧ tn ≤ 800 := xq0.2.2
  have b1 := gi_b (lo := 0) (hi := 800) g 236 4 rfl
  have b2 := gi_b (lo := 0) (hi := 800) g 236 3 rfl
  have b3 := gi_b (lo := 0) (hi := 800) g 236 5 rfl
  obtain ⟨i4, ei4⟩ : ∃ q : Nat, (0 + h 236 4) = (q : Int) := ⟨(0 + h 236 4).toNat, by omega⟩
  have b5 := gi_b (lo := 0) (hi := 255) g 237 i4 rfl
  have e6 : h 237 (0 + (h 236 4).toNat) = h 237 i4 := by rw [show 0 + (h 236 4).toNat = i4 by omega]
  have b7 := gi_b (lo := 0) (hi := 999) g 236 7 rfl
  refine wl_1 (fun x8 h9 => h = h9 ∧ ((3 ≤ x8 ∧ x8 ≤ 800) ∧ (x8 + (h 236 4) ≤ (h 236 3)) ∧ ((h 236 4) = (h 236 4)) ∧ (3 ≤ x8)) ∧ tk_I tk_dg tB 10 48 3 1 tn (h 236 4) ((h 236 4) + x8) (h 236 7)) (fun x8 h9 => ((h 236 3) - (h 236 4) - x8).toNat) (fun x8 h9 => (146, [(0, .ref 236), (2, vi x8)], [], hp_w h9 cr, b, c)) ?_ 3 h ⟨rfl, (show (3 ≤ 3 ∧ 3 ≤ 800) ∧ (3 + (h 236 4) ≤ (h 236 3)) ∧ ((h 236 4) = (h 236 4)) ∧ (3 ≤ 3) by omega), xq1⟩
  intro x8 h9 ⟨e9, f9, X9_0⟩ I9
  subst e9
  refine wi_aload_n (i := 0) (x := 236) (nx := 147) (r1 := 0) (r2 := 0) (r3 := 0) rfl rfl ?_
  refine wi_iload_n (i := 2) (e := x8) (nx := 148) (r1 := 0) (r2 := 0) (r3 := 0) rfl rfl ?_
  refine wr_V (k0 := 236) (rest := []) (as := [.ref 236, vi x8]) (nx := 151) (r1 := 216) (r2 := 1) (r3 := 11) rfl rfl rfl (of_decide_eq_true rfl) rfl rfl (by decide) rfl rfl (of_decide_eq_true rfl) (of_decide_eq_true rfl) ?_
  refine wi_aload_n (i := 0) (x := 236) (nx := 1) (r1 := 0) (r2 := 0) (r3 := 0) rfl rfl ?_
  refine wr_gi0 (k0 := 236) (x := h 236 4) (nx := 4) (r1 := 11) (r2 := 4) (r3 := 0) rfl rfl (by decide) rfl ⟨rfl, rfl⟩ rfl rfl ?_
  refine wi_iload_n (i := 1) (e := x8) (nx := 5) (r1 := 0) (r2 := 0) (r3 := 0) rfl rfl ?_
  refine wr_add (nx := 6) (r1 := 0) (r2 := 0) (r3 := 0) rfl (fun e11 (fe11 : e11 = (h 236 4) + x8) => ?_)
  refine wi_aload_n (i := 0) (x := 236) (nx := 7) (r1 := 0) (r2 := 0) (r3 := 0) rfl rfl ?_
  refine wr_gi0 (k0 := 236) (x := h 236 3) (nx := 10) (r1 := 11) (r2 := 3) (r3 := 0) rfl rfl (by decide) rfl ⟨rfl, rfl⟩ rfl rfl ?_
  refine wi_icmp (cd := .ge) (nx := 13) (r1 := 27) (r2 := 0) (r3 := 0) rfl (by omega) (by omega) (fun (q12 : (h 236 3) ≤ e11) => ?_) (fun (q12 : ¬ ((h 236 3) ≤ e11)) => ?_)
  ·
    refine wi_iconst (n := (-1)) (nx := 28) (r1 := 0) (r2 := 0) (r3 := 0) rfl ?_
    refine wi_ireturn (nx := 29) (r1 := 0) (r2 := 0) (r3 := 0) rfl rfl ?_
    refine wk_i ?_
    refine wi_S (rest := []) (as := [vi (-1)]) (nx := 154) (r1 := 218) (r2 := 17) (r3 := 0) rfl rfl rfl (of_decide_eq_true rfl) rfl rfl (of_decide_eq_true rfl) (of_decide_eq_true rfl) ?_
    refine wi_iload_n (i := 0) (e := -1) (nx := 1) (r1 := 0) (r2 := 0) (r3 := 0) rfl rfl ?_
    refine wi_bipush (n := 48) (nx := 3) (r1 := 0) (r2 := 0) (r3 := 0) rfl (by decide) ?_
    refine wi_icmp (cd := .lt) (nx := 6) (r1 := 16) (r2 := 0) (r3 := 0) rfl (by omega) (by omega) (fun (q13 : (-1) < 48) => ?_) (fun (q13 : ¬ ((-1) < 48)) => by exfalso; omega)
    refine wi_iconst (n := 0) (nx := 17) (r1 := 0) (r2 := 0) (r3 := 0) rfl ?_
    refine wi_zreturn (nx := 18) (r1 := 0) (r2 := 0) (r3 := 0) rfl rfl (by omega) ?_
    refine wk_i ?_
    refine wi_if (cd := .eq) (nx := 157) (r1 := 188) (r2 := 0) (r3 := 0) rfl (by omega) (fun (q14 : 0 = 0) => ?_) (fun (q14 : ¬ (0 = 0)) => by exfalso; omega)
    refine wi_aload_n (i := 0) (x := 236) (nx := 189) (r1 := 0) (r2 := 0) (r3 := 0) rfl rfl ?_
    refine wi_iload_n (i := 2) (e := x8) (nx := 190) (r1 := 0) (r2 := 0) (r3 := 0) rfl rfl ?_
    refine wi_iconst (n := 3) (nx := 191) (r1 := 0) (r2 := 0) (r3 := 0) rfl ?_
    refine wi_icmp (cd := .le) (nx := 194) (r1 := 198) (r2 := 0) (r3 := 0) rfl (by omega) (by omega) (fun (q15 : x8 ≤ 3) => ?_) (fun (q15 : ¬ (x8 ≤ 3)) => ?_)
    ·
      obtain ⟨tI16, tI16v⟩ : tk_de tB tn (h 236 4) = (h 236 4) + x8 ∧ ((h 236 4) + x8 - (h 236 4) ≤ 3 → tk_nu tB tn (h 236 4) 0 = h 236 7) := tk_Ie X9_0 (Or.inl (by omega))
      replace tI16v := tI16v (by omega)
      obtain ⟨tA17, tA17g, tA17b, tA17n⟩ := tk_atD pp1 (by omega) (show (h 236 4) = (((h 236 4)).toNat : Int) by omega) rfl (show _ ≤ tB ((h 236 4)).toNat ∧ tB ((h 236 4)).toNat ≤ _ by have yz := xq0.1 ((h 236 4)).toNat (by omega); rw [show ((h 236 4)).toNat = 0 + ((h 236 4)).toNat by omega] at yz ⊢; omega)
      clear tA17b; replace tA17g := tA17g (by omega)
      have tN18 := @tk_nx_b tB tn tp (by omega) (by omega)
      refine wi_iconst (n := 2) (nx := 199) (r1 := 0) (r2 := 0) (r3 := 0) rfl ?_
      refine wr_pf0 (k0 := 236) (x := 2) (bl := 0) (bh := 4) (nx := 202) (r1 := 11) (r2 := 6) (r3 := 0) rfl (by decide) rfl ⟨rfl, rfl⟩ rfl rfl g rfl (by omega) (fun h19 g19 w19 u19 => ?_)
      have F20 := F0.then rfl u19
      refine wi_goto (nx := 205) (r1 := 239) (r2 := 0) (r3 := 0) rfl ?_
      refine wi_aload_n (i := 0) (x := 236) (nx := 240) (r1 := 0) (r2 := 0) (r3 := 0) rfl rfl ?_
      refine wi_dup (nx := 241) (r1 := 0) (r2 := 0) (r3 := 0) rfl rfl ?_
      refine wr_gi0 (k0 := 236) (x := h 236 4) (nx := 244) (r1 := 11) (r2 := 4) (r3 := 0) rfl rfl (by decide) rfl ⟨rfl, rfl⟩ rfl (u19 236 4 rfl) ?_
      refine wi_iload_n (i := 2) (e := x8) (nx := 245) (r1 := 0) (r2 := 0) (r3 := 0) rfl rfl ?_
      refine wr_add (nx := 246) (r1 := 0) (r2 := 0) (r3 := 0) rfl (fun e21 (fe21 : e21 = (h 236 4) + x8) => ?_)
      refine wr_pf0 (k0 := 236) (x := e21) (bl := 0) (bh := 800) (nx := 249) (r1 := 11) (r2 := 4) (r3 := 0) rfl (by decide) rfl ⟨rfl, rfl⟩ rfl rfl g19 rfl (by omega) (fun h22 g22 w22 u22 => ?_)
      have F23 := F20.then rfl u22
      refine wi_return (nx := 250) (r1 := 0) (r2 := 0) (r3 := 0) rfl rfl ?_
      have e24 : h22 236 4 = e21 := w22
      have e25 : h22 236 5 = h 236 5 := ((u22 236 5 rfl).trans (u19 236 5 rfl))
      have e26 : h22 236 6 = 2 := ((u22 236 6 rfl).trans w19)
      have e27 : h22 236 7 = h 236 7 := ((u22 236 7 rfl).trans (u19 236 7 rfl))
      have b28 := gi_b (lo := -9223372036854775808) (hi := 9223372036854775807) g 236 12 rfl
      have e29 : h22 236 12 = h 236 12 := ((u22 236 12 rfl).trans (u19 236 12 rfl))
      exact k h22 g22 F23 (show (h 236 4) ≤ (h22 236 4) by omega) (show (h22 236 4) ≤ (h 236 3) by omega) (show ((h22 236 4) = tk_nx tB tn tp ∧ (h22 236 5) = tk_st tB tn tp ∧ TKk tB tn tp ((h22 236 6)) ((h22 236 7)) ((h22 236 12))) by first | assumption | exact ⟨by omega, by omega, TKk.i2 (by omega) (by omega) (by omega)⟩ | exact ⟨by omega, by omega, TKk.mv (by assumption) (by omega) (by omega) (by omega)⟩) (show tp ≤ tk_nx tB tn tp ∧ tk_nx tB tn tp ≤ tn by omega)
    ·
      obtain ⟨tI16, tI16v⟩ : tk_de tB tn (h 236 4) = (h 236 4) + x8 ∧ ((h 236 4) + x8 - (h 236 4) ≤ 3 → tk_nu tB tn (h 236 4) 0 = h 236 7) := tk_Ie X9_0 (Or.inl (by omega))
      clear tI16v
      obtain ⟨tA17, tA17g, tA17b, tA17n⟩ := tk_atD pp1 (by omega) (show (h 236 4) = (((h 236 4)).toNat : Int) by omega) rfl (show _ ≤ tB ((h 236 4)).toNat ∧ tB ((h 236 4)).toNat ≤ _ by have yz := xq0.1 ((h 236 4)).toNat (by omega); rw [show ((h 236 4)).toNat = 0 + ((h 236 4)).toNat by omega] at yz ⊢; omega)
      clear tA17g; replace tA17b := tA17b (by omega)
      have tN18 := @tk_nx_b tB tn tp (by omega) (by omega)
      refine wi_iconst (n := 4) (nx := 195) (r1 := 0) (r2 := 0) (r3 := 0) rfl ?_
      refine wi_goto (nx := 198) (r1 := 199) (r2 := 0) (r3 := 0) rfl ?_
      refine wr_pf0 (k0 := 236) (x := 4) (bl := 0) (bh := 4) (nx := 202) (r1 := 11) (r2 := 6) (r3 := 0) rfl (by decide) rfl ⟨rfl, rfl⟩ rfl rfl g rfl (by omega) (fun h19 g19 w19 u19 => ?_)
      have F20 := F0.then rfl u19
      refine wi_goto (nx := 205) (r1 := 239) (r2 := 0) (r3 := 0) rfl ?_
      refine wi_aload_n (i := 0) (x := 236) (nx := 240) (r1 := 0) (r2 := 0) (r3 := 0) rfl rfl ?_
      refine wi_dup (nx := 241) (r1 := 0) (r2 := 0) (r3 := 0) rfl rfl ?_
      refine wr_gi0 (k0 := 236) (x := h 236 4) (nx := 244) (r1 := 11) (r2 := 4) (r3 := 0) rfl rfl (by decide) rfl ⟨rfl, rfl⟩ rfl (u19 236 4 rfl) ?_
      refine wi_iload_n (i := 2) (e := x8) (nx := 245) (r1 := 0) (r2 := 0) (r3 := 0) rfl rfl ?_
      refine wr_add (nx := 246) (r1 := 0) (r2 := 0) (r3 := 0) rfl (fun e21 (fe21 : e21 = (h 236 4) + x8) => ?_)
      refine wr_pf0 (k0 := 236) (x := e21) (bl := 0) (bh := 800) (nx := 249) (r1 := 11) (r2 := 4) (r3 := 0) rfl (by decide) rfl ⟨rfl, rfl⟩ rfl rfl g19 rfl (by omega) (fun h22 g22 w22 u22 => ?_)
      have F23 := F20.then rfl u22
      refine wi_return (nx := 250) (r1 := 0) (r2 := 0) (r3 := 0) rfl rfl ?_
      have e24 : h22 236 4 = e21 := w22
      have e25 : h22 236 5 = h 236 5 := ((u22 236 5 rfl).trans (u19 236 5 rfl))
      have e26 : h22 236 6 = 4 := ((u22 236 6 rfl).trans w19)
      have e27 : h22 236 7 = h 236 7 := ((u22 236 7 rfl).trans (u19 236 7 rfl))
      have b28 := gi_b (lo := -9223372036854775808) (hi := 9223372036854775807) g 236 12 rfl
      have e29 : h22 236 12 = h 236 12 := ((u22 236 12 rfl).trans (u19 236 12 rfl))
      exact k h22 g22 F23 (show (h 236 4) ≤ (h22 236 4) by omega) (show (h22 236 4) ≤ (h 236 3) by omega) (show ((h22 236 4) = tk_nx tB tn tp ∧ (h22 236 5) = tk_st tB tn tp ∧ TKk tB tn tp ((h22 236 6)) ((h22 236 7)) ((h22 236 12))) by first | assumption | exact ⟨by omega, by omega, TKk.i6 (by omega) (by omega)⟩ | exact ⟨by omega, by omega, TKk.mv (by assumption) (by omega) (by omega) (by omega)⟩) (show tp ≤ tk_nx tB tn tp ∧ tk_nx tB tn tp ≤ tn by omega)
  ·
    refine wi_aload_n (i := 0) (x := 236) (nx := 14) (r1 := 0) (r2 := 0) (r3 := 0) rfl rfl ?_
    refine wr_gr (k0 := 236) (x := 237) (nx := 17) (r1 := 11) (r2 := 1) (r3 := 0) rfl rfl (by decide) rfl ⟨rfl, rfl⟩ rfl ?_
    refine wi_aload_n (i := 0) (x := 236) (nx := 18) (r1 := 0) (r2 := 0) (r3 := 0) rfl rfl ?_
    refine wr_gi0 (k0 := 236) (x := h 236 4) (nx := 21) (r1 := 11) (r2 := 4) (r3 := 0) rfl rfl (by decide) rfl ⟨rfl, rfl⟩ rfl rfl ?_
    refine wi_iload_n (i := 1) (e := x8) (nx := 22) (r1 := 0) (r2 := 0) (r3 := 0) rfl rfl ?_
    refine wr_add (nx := 23) (r1 := 0) (r2 := 0) (r3 := 0) rfl (fun e13 (fe13 : e13 = (h 236 4) + x8) => ?_)
    obtain ⟨i14, ei14⟩ : ∃ q : Nat, e13 = (q : Int) := ⟨(e13).toNat, by omega⟩
    have b15 := gi_b (lo := 0) (hi := 255) g 237 i14 rfl
    have ry16 := xq0.1 i14 (by omega)
    refine wr_ia (k0 := 237) (a := e13) (f := i14) (x := h 237 i14) (nx := 24) (r1 := 0) (r2 := 0) (r3 := 0) rfl (by decide) rfl (by omega) (by omega) (by decide) rfl ?_
    refine wi_goto (nx := 27) (r1 := 28) (r2 := 0) (r3 := 0) rfl ?_
    refine wi_ireturn (nx := 29) (r1 := 0) (r2 := 0) (r3 := 0) rfl rfl ?_
    refine wk_i ?_
    refine wi_S (rest := []) (as := [vi (h 237 i14)]) (nx := 154) (r1 := 218) (r2 := 17) (r3 := 0) rfl rfl rfl (of_decide_eq_true rfl) rfl rfl (of_decide_eq_true rfl) (of_decide_eq_true rfl) ?_
    refine wi_iload_n (i := 0) (e := h 237 i14) (nx := 1) (r1 := 0) (r2 := 0) (r3 := 0) rfl rfl ?_
    refine wi_bipush (n := 48) (nx := 3) (r1 := 0) (r2 := 0) (r3 := 0) rfl (by decide) ?_
    refine wi_icmp (cd := .lt) (nx := 6) (r1 := 16) (r2 := 0) (r3 := 0) rfl (by omega) (by omega) (fun (q17 : (h 237 i14) < 48) => ?_) (fun (q17 : ¬ ((h 237 i14) < 48)) => ?_)
    ·
      refine wi_iconst (n := 0) (nx := 17) (r1 := 0) (r2 := 0) (r3 := 0) rfl ?_
      refine wi_zreturn (nx := 18) (r1 := 0) (r2 := 0) (r3 := 0) rfl rfl (by omega) ?_
      refine wk_i ?_
      refine wi_if (cd := .eq) (nx := 157) (r1 := 188) (r2 := 0) (r3 := 0) rfl (by omega) (fun (q18 : 0 = 0) => ?_) (fun (q18 : ¬ (0 = 0)) => by exfalso; omega)
      refine wi_aload_n (i := 0) (x := 236) (nx := 189) (r1 := 0) (r2 := 0) (r3 := 0) rfl rfl ?_
      refine wi_iload_n (i := 2) (e := x8) (nx := 190) (r1 := 0) (r2 := 0) (r3 := 0) rfl rfl ?_
      refine wi_iconst (n := 3) (nx := 191) (r1 := 0) (r2 := 0) (r3 := 0) rfl ?_
      refine wi_icmp (cd := .le) (nx := 194) (r1 := 198) (r2 := 0) (r3 := 0) rfl (by omega) (by omega) (fun (q19 : x8 ≤ 3) => ?_) (fun (q19 : ¬ (x8 ≤ 3)) => ?_)
      ·
        obtain ⟨tI20, tI20v⟩ : tk_de tB tn (h 236 4) = (h 236 4) + x8 ∧ ((h 236 4) + x8 - (h 236 4) ≤ 3 → tk_nu tB tn (h 236 4) 0 = h 236 7) := tk_Ie2 X9_0 (show (h 236 4) + x8 = (i14 : Int) by omega) (rfl : tB i14 = tB i14) (tk_dg_f (by omega))
        replace tI20v := tI20v (by omega)
        obtain ⟨tA21, tA21g, tA21b, tA21n⟩ := tk_atD pp1 (by omega) (show (h 236 4) = (((h 236 4)).toNat : Int) by omega) rfl (show _ ≤ tB ((h 236 4)).toNat ∧ tB ((h 236 4)).toNat ≤ _ by have yz := xq0.1 ((h 236 4)).toNat (by omega); rw [show ((h 236 4)).toNat = 0 + ((h 236 4)).toNat by omega] at yz ⊢; omega)
        clear tA21b; replace tA21g := tA21g (by omega)
        have tN22 := @tk_nx_b tB tn tp (by omega) (by omega)
        refine wi_iconst (n := 2) (nx := 199) (r1 := 0) (r2 := 0) (r3 := 0) rfl ?_
        refine wr_pf0 (k0 := 236) (x := 2) (bl := 0) (bh := 4) (nx := 202) (r1 := 11) (r2 := 6) (r3 := 0) rfl (by decide) rfl ⟨rfl, rfl⟩ rfl rfl g rfl (by omega) (fun h23 g23 w23 u23 => ?_)
        have F24 := F0.then rfl u23
        refine wi_goto (nx := 205) (r1 := 239) (r2 := 0) (r3 := 0) rfl ?_
        refine wi_aload_n (i := 0) (x := 236) (nx := 240) (r1 := 0) (r2 := 0) (r3 := 0) rfl rfl ?_
        refine wi_dup (nx := 241) (r1 := 0) (r2 := 0) (r3 := 0) rfl rfl ?_
        refine wr_gi0 (k0 := 236) (x := h 236 4) (nx := 244) (r1 := 11) (r2 := 4) (r3 := 0) rfl rfl (by decide) rfl ⟨rfl, rfl⟩ rfl (u23 236 4 rfl) ?_
        refine wi_iload_n (i := 2) (e := x8) (nx := 245) (r1 := 0) (r2 := 0) (r3 := 0) rfl rfl ?_
        refine wr_add (nx := 246) (r1 := 0) (r2 := 0) (r3 := 0) rfl (fun e25 (fe25 : e25 = (h 236 4) + x8) => ?_)
        refine wr_pf0 (k0 := 236) (x := e25) (bl := 0) (bh := 800) (nx := 249) (r1 := 11) (r2 := 4) (r3 := 0) rfl (by decide) rfl ⟨rfl, rfl⟩ rfl rfl g23 rfl (by omega) (fun h26 g26 w26 u26 => ?_)
        have F27 := F24.then rfl u26
        refine wi_return (nx := 250) (r1 := 0) (r2 := 0) (r3 := 0) rfl rfl ?_
        have e28 : h26 236 4 = e25 := w26
        have e29 : h26 236 5 = h 236 5 := ((u26 236 5 rfl).trans (u23 236 5 rfl))
        have e30 : h26 236 6 = 2 := ((u26 236 6 rfl).trans w23)
        have e31 : h26 236 7 = h 236 7 := ((u26 236 7 rfl).trans (u23 236 7 rfl))
        have b32 := gi_b (lo := -9223372036854775808) (hi := 9223372036854775807) g 236 12 rfl
        have e33 : h26 236 12 = h 236 12 := ((u26 236 12 rfl).trans (u23 236 12 rfl))
        exact k h26 g26 F27 (show (h 236 4) ≤ (h26 236 4) by omega) (show (h26 236 4) ≤ (h 236 3) by omega) (show ((h26 236 4) = tk_nx tB tn tp ∧ (h26 236 5) = tk_st tB tn tp ∧ TKk tB tn tp ((h26 236 6)) ((h26 236 7)) ((h26 236 12))) by first | assumption | exact ⟨by omega, by omega, TKk.i2 (by omega) (by omega) (by omega)⟩ | exact ⟨by omega, by omega, TKk.mv (by assumption) (by omega) (by omega) (by omega)⟩) (show tp ≤ tk_nx tB tn tp ∧ tk_nx tB tn tp ≤ tn by omega)
      ·
        obtain ⟨tI20, tI20v⟩ : tk_de tB tn (h 236 4) = (h 236 4) + x8 ∧ ((h 236 4) + x8 - (h 236 4) ≤ 3 → tk_nu tB tn (h 236 4) 0 = h 236 7) := tk_Ie2 X9_0 (show (h 236 4) + x8 = (i14 : Int) by omega) (rfl : tB i14 = tB i14) (tk_dg_f (by omega))
        clear tI20v
        obtain ⟨tA21, tA21g, tA21b, tA21n⟩ := tk_atD pp1 (by omega) (show (h 236 4) = (((h 236 4)).toNat : Int) by omega) rfl (show _ ≤ tB ((h 236 4)).toNat ∧ tB ((h 236 4)).toNat ≤ _ by have yz := xq0.1 ((h 236 4)).toNat (by omega); rw [show ((h 236 4)).toNat = 0 + ((h 236 4)).toNat by omega] at yz ⊢; omega)
        clear tA21g; replace tA21b := tA21b (by omega)
        have tN22 := @tk_nx_b tB tn tp (by omega) (by omega)
        refine wi_iconst (n := 4) (nx := 195) (r1 := 0) (r2 := 0) (r3 := 0) rfl ?_
        refine wi_goto (nx := 198) (r1 := 199) (r2 := 0) (r3 := 0) rfl ?_
        refine wr_pf0 (k0 := 236) (x := 4) (bl := 0) (bh := 4) (nx := 202) (r1 := 11) (r2 := 6) (r3 := 0) rfl (by decide) rfl ⟨rfl, rfl⟩ rfl rfl g rfl (by omega) (fun h23 g23 w23 u23 => ?_)
        have F24 := F0.then rfl u23
        refine wi_goto (nx := 205) (r1 := 239) (r2 := 0) (r3 := 0) rfl ?_
        refine wi_aload_n (i := 0) (x := 236) (nx := 240) (r1 := 0) (r2 := 0) (r3 := 0) rfl rfl ?_
        refine wi_dup (nx := 241) (r1 := 0) (r2 := 0) (r3 := 0) rfl rfl ?_
        refine wr_gi0 (k0 := 236) (x := h 236 4) (nx := 244) (r1 := 11) (r2 := 4) (r3 := 0) rfl rfl (by decide) rfl ⟨rfl, rfl⟩ rfl (u23 236 4 rfl) ?_
        refine wi_iload_n (i := 2) (e := x8) (nx := 245) (r1 := 0) (r2 := 0) (r3 := 0) rfl rfl ?_
        refine wr_add (nx := 246) (r1 := 0) (r2 := 0) (r3 := 0) rfl (fun e25 (fe25 : e25 = (h 236 4) + x8) => ?_)
        refine wr_pf0 (k0 := 236) (x := e25) (bl := 0) (bh := 800) (nx := 249) (r1 := 11) (r2 := 4) (r3 := 0) rfl (by decide) rfl ⟨rfl, rfl⟩ rfl rfl g23 rfl (by omega) (fun h26 g26 w26 u26 => ?_)
        have F27 := F24.then rfl u26
        refine wi_return (nx := 250) (r1 := 0) (r2 := 0) (r3 := 0) rfl rfl ?_
        have e28 : h26 236 4 = e25 := w26
        have e29 : h26 236 5 = h 236 5 := ((u26 236 5 rfl).trans (u23 236 5 rfl))
        have e30 : h26 236 6 = 4 := ((u26 236 6 rfl).trans w23)
        have e31 : h26 236 7 = h 236 7 := ((u26 236 7 rfl).trans (u23 236 7 rfl))
        have b32 := gi_b (lo := -9223372036854775808) (hi := 9223372036854775807) g 236 12 rfl
        have e33 : h26 236 12 = h 236 12 := ((u26 236 12 rfl).trans (u23 236 12 rfl))
        exact k h26 g26 F27 (show (h 236 4) ≤ (h26 236 4) by omega) (show (h26 236 4) ≤ (h 236 3) by omega) (show ((h26 236 4) = tk_nx tB tn tp ∧ (h26 236 5) = tk_st tB tn tp ∧ TKk tB tn tp ((h26 236 6)) ((h26 236 7)) ((h26 236 12))) by first | assumption | exact ⟨by omega, by omega, TKk.i6 (by omega) (by omega)⟩ | exact ⟨by omega, by omega, TKk.mv (by assumption) (by omega) (by omega) (by omega)⟩) (show tp ≤ tk_nx tB tn tp ∧ tk_nx tB tn tp ≤ tn by omega)
    ·
      refine wi_iload_n (i := 0) (e := h 237 i14) (nx := 7) (r1 := 0) (r2 := 0) (r3 := 0) rfl rfl ?_
      refine wi_bipush (n := 57) (nx := 9) (r1 := 0) (r2 := 0) (r3 := 0) rfl (by decide) ?_
      refine wi_icmp (cd := .gt) (nx := 12) (r1 := 16) (r2 := 0) (r3 := 0) rfl (by omega) (by omega) (fun (q18 : 57 < (h 237 i14)) => ?_) (fun (q18 : ¬ (57 < (h 237 i14))) => ?_)
      ·
        refine wi_iconst (n := 0) (nx := 17) (r1 := 0) (r2 := 0) (r3 := 0) rfl ?_
        refine wi_zreturn (nx := 18) (r1 := 0) (r2 := 0) (r3 := 0) rfl rfl (by omega) ?_
        refine wk_i ?_
        refine wi_if (cd := .eq) (nx := 157) (r1 := 188) (r2 := 0) (r3 := 0) rfl (by omega) (fun (q19 : 0 = 0) => ?_) (fun (q19 : ¬ (0 = 0)) => by exfalso; omega)
        refine wi_aload_n (i := 0) (x := 236) (nx := 189) (r1 := 0) (r2 := 0) (r3 := 0) rfl rfl ?_
        refine wi_iload_n (i := 2) (e := x8) (nx := 190) (r1 := 0) (r2 := 0) (r3 := 0) rfl rfl ?_
        refine wi_iconst (n := 3) (nx := 191) (r1 := 0) (r2 := 0) (r3 := 0) rfl ?_
        refine wi_icmp (cd := .le) (nx := 194) (r1 := 198) (r2 := 0) (r3 := 0) rfl (by omega) (by omega) (fun (q20 : x8 ≤ 3) => ?_) (fun (q20 : ¬ (x8 ≤ 3)) => ?_)
        ·
          obtain ⟨tI21, tI21v⟩ : tk_de tB tn (h 236 4) = (h 236 4) + x8 ∧ ((h 236 4) + x8 - (h 236 4) ≤ 3 → tk_nu tB tn (h 236 4) 0 = h 236 7) := tk_Ie2 X9_0 (show (h 236 4) + x8 = (i14 : Int) by omega) (rfl : tB i14 = tB i14) (tk_dg_f (by omega))
          replace tI21v := tI21v (by omega)
          obtain ⟨tA22, tA22g, tA22b, tA22n⟩ := tk_atD pp1 (by omega) (show (h 236 4) = (((h 236 4)).toNat : Int) by omega) rfl (show _ ≤ tB ((h 236 4)).toNat ∧ tB ((h 236 4)).toNat ≤ _ by have yz := xq0.1 ((h 236 4)).toNat (by omega); rw [show ((h 236 4)).toNat = 0 + ((h 236 4)).toNat by omega] at yz ⊢; omega)
          clear tA22b; replace tA22g := tA22g (by omega)
          have tN23 := @tk_nx_b tB tn tp (by omega) (by omega)
          refine wi_iconst (n := 2) (nx := 199) (r1 := 0) (r2 := 0) (r3 := 0) rfl ?_
          refine wr_pf0 (k0 := 236) (x := 2) (bl := 0) (bh := 4) (nx := 202) (r1 := 11) (r2 := 6) (r3 := 0) rfl (by decide) rfl ⟨rfl, rfl⟩ rfl rfl g rfl (by omega) (fun h24 g24 w24 u24 => ?_)
          have F25 := F0.then rfl u24
          refine wi_goto (nx := 205) (r1 := 239) (r2 := 0) (r3 := 0) rfl ?_
          refine wi_aload_n (i := 0) (x := 236) (nx := 240) (r1 := 0) (r2 := 0) (r3 := 0) rfl rfl ?_
          refine wi_dup (nx := 241) (r1 := 0) (r2 := 0) (r3 := 0) rfl rfl ?_
          refine wr_gi0 (k0 := 236) (x := h 236 4) (nx := 244) (r1 := 11) (r2 := 4) (r3 := 0) rfl rfl (by decide) rfl ⟨rfl, rfl⟩ rfl (u24 236 4 rfl) ?_
          refine wi_iload_n (i := 2) (e := x8) (nx := 245) (r1 := 0) (r2 := 0) (r3 := 0) rfl rfl ?_
          refine wr_add (nx := 246) (r1 := 0) (r2 := 0) (r3 := 0) rfl (fun e26 (fe26 : e26 = (h 236 4) + x8) => ?_)
          refine wr_pf0 (k0 := 236) (x := e26) (bl := 0) (bh := 800) (nx := 249) (r1 := 11) (r2 := 4) (r3 := 0) rfl (by decide) rfl ⟨rfl, rfl⟩ rfl rfl g24 rfl (by omega) (fun h27 g27 w27 u27 => ?_)
          have F28 := F25.then rfl u27
          refine wi_return (nx := 250) (r1 := 0) (r2 := 0) (r3 := 0) rfl rfl ?_
          have e29 : h27 236 4 = e26 := w27
          have e30 : h27 236 5 = h 236 5 := ((u27 236 5 rfl).trans (u24 236 5 rfl))
          have e31 : h27 236 6 = 2 := ((u27 236 6 rfl).trans w24)
          have e32 : h27 236 7 = h 236 7 := ((u27 236 7 rfl).trans (u24 236 7 rfl))
          have b33 := gi_b (lo := -9223372036854775808) (hi := 9223372036854775807) g 236 12 rfl
          have e34 : h27 236 12 = h 236 12 := ((u27 236 12 rfl).trans (u24 236 12 rfl))
          exact k h27 g27 F28 (show (h 236 4) ≤ (h27 236 4) by omega) (show (h27 236 4) ≤ (h 236 3) by omega) (show ((h27 236 4) = tk_nx tB tn tp ∧ (h27 236 5) = tk_st tB tn tp ∧ TKk tB tn tp ((h27 236 6)) ((h27 236 7)) ((h27 236 12))) by first | assumption | exact ⟨by omega, by omega, TKk.i2 (by omega) (by omega) (by omega)⟩ | exact ⟨by omega, by omega, TKk.mv (by assumption) (by omega) (by omega) (by omega)⟩) (show tp ≤ tk_nx tB tn tp ∧ tk_nx tB tn tp ≤ tn by omega)
        ·
          obtain ⟨tI21, tI21v⟩ : tk_de tB tn (h 236 4) = (h 236 4) + x8 ∧ ((h 236 4) + x8 - (h 236 4) ≤ 3 → tk_nu tB tn (h 236 4) 0 = h 236 7) := tk_Ie2 X9_0 (show (h 236 4) + x8 = (i14 : Int) by omega) (rfl : tB i14 = tB i14) (tk_dg_f (by omega))
          clear tI21v
          obtain ⟨tA22, tA22g, tA22b, tA22n⟩ := tk_atD pp1 (by omega) (show (h 236 4) = (((h 236 4)).toNat : Int) by omega) rfl (show _ ≤ tB ((h 236 4)).toNat ∧ tB ((h 236 4)).toNat ≤ _ by have yz := xq0.1 ((h 236 4)).toNat (by omega); rw [show ((h 236 4)).toNat = 0 + ((h 236 4)).toNat by omega] at yz ⊢; omega)
          clear tA22g; replace tA22b := tA22b (by omega)
          have tN23 := @tk_nx_b tB tn tp (by omega) (by omega)
          refine wi_iconst (n := 4) (nx := 195) (r1 := 0) (r2 := 0) (r3 := 0) rfl ?_
          refine wi_goto (nx := 198) (r1 := 199) (r2 := 0) (r3 := 0) rfl ?_
          refine wr_pf0 (k0 := 236) (x := 4) (bl := 0) (bh := 4) (nx := 202) (r1 := 11) (r2 := 6) (r3 := 0) rfl (by decide) rfl ⟨rfl, rfl⟩ rfl rfl g rfl (by omega) (fun h24 g24 w24 u24 => ?_)
          have F25 := F0.then rfl u24
          refine wi_goto (nx := 205) (r1 := 239) (r2 := 0) (r3 := 0) rfl ?_
          refine wi_aload_n (i := 0) (x := 236) (nx := 240) (r1 := 0) (r2 := 0) (r3 := 0) rfl rfl ?_
          refine wi_dup (nx := 241) (r1 := 0) (r2 := 0) (r3 := 0) rfl rfl ?_
          refine wr_gi0 (k0 := 236) (x := h 236 4) (nx := 244) (r1 := 11) (r2 := 4) (r3 := 0) rfl rfl (by decide) rfl ⟨rfl, rfl⟩ rfl (u24 236 4 rfl) ?_
          refine wi_iload_n (i := 2) (e := x8) (nx := 245) (r1 := 0) (r2 := 0) (r3 := 0) rfl rfl ?_
          refine wr_add (nx := 246) (r1 := 0) (r2 := 0) (r3 := 0) rfl (fun e26 (fe26 : e26 = (h 236 4) + x8) => ?_)
          refine wr_pf0 (k0 := 236) (x := e26) (bl := 0) (bh := 800) (nx := 249) (r1 := 11) (r2 := 4) (r3 := 0) rfl (by decide) rfl ⟨rfl, rfl⟩ rfl rfl g24 rfl (by omega) (fun h27 g27 w27 u27 => ?_)
          have F28 := F25.then rfl u27
          refine wi_return (nx := 250) (r1 := 0) (r2 := 0) (r3 := 0) rfl rfl ?_
          have e29 : h27 236 4 = e26 := w27
          have e30 : h27 236 5 = h 236 5 := ((u27 236 5 rfl).trans (u24 236 5 rfl))
          have e31 : h27 236 6 = 4 := ((u27 236 6 rfl).trans w24)
          have e32 : h27 236 7 = h 236 7 := ((u27 236 7 rfl).trans (u24 236 7 rfl))
          have b33 := gi_b (lo := -9223372036854775808) (hi := 9223372036854775807) g 236 12 rfl
          have e34 : h27 236 12 = h 236 12 := ((u27 236 12 rfl).trans (u24 236 12 rfl))
          exact k h27 g27 F28 (show (h 236 4) ≤ (h27 236 4) by omega) (show (h27 236 4) ≤ (h 236 3) by omega) (show ((h27 236 4) = tk_nx tB tn tp ∧ (h27 236 5) = tk_st tB tn tp ∧ TKk tB tn tp ((h27 236 6)) ((h27 236 7)) ((h27 236 12))) by first | assumption | exact ⟨by omega, by omega, TKk.i6 (by omega) (by omega)⟩ | exact ⟨by omega, by omega, TKk.mv (by assumption) (by omega) (by omega) (by omega)⟩) (show tp ≤ tk_nx tB tn tp ∧ tk_nx tB tn tp ≤ tn by omega)
      ·
        refine wi_iconst (n := 1) (nx := 13) (r1 := 0) (r2 := 0) (r3 := 0) rfl ?_
        refine wi_goto (nx := 16) (r1 := 17) (r2 := 0) (r3 := 0) rfl ?_
        refine wi_zreturn (nx := 18) (r1 := 0) (r2 := 0) (r3 := 0) rfl rfl (by omega) ?_
        refine wk_i ?_
        refine wi_if (cd := .eq) (nx := 157) (r1 := 188) (r2 := 0) (r3 := 0) rfl (by omega) (fun (q19 : 1 = 0) => by exfalso; omega) (fun (q19 : ¬ (1 = 0)) => ?_)
        refine wi_iload_n (i := 2) (e := x8) (nx := 158) (r1 := 0) (r2 := 0) (r3 := 0) rfl rfl ?_
        refine wi_iconst (n := 3) (nx := 159) (r1 := 0) (r2 := 0) (r3 := 0) rfl ?_
        refine wi_icmp (cd := .ge) (nx := 162) (r1 := 182) (r2 := 0) (r3 := 0) rfl (by omega) (by omega) (fun (q20 : 3 ≤ x8) => ?_) (fun (q20 : ¬ (3 ≤ x8)) => by exfalso; omega)
        refine wr_iinc (i := 2) (n := 1) (v := x8) (fun e21 => [(2, vi e21), (0, .ref 236)]) (nx := 185) (r1 := 0) (r2 := 0) (r3 := 0) rfl rfl (fun _ => rfl) (fun e21 (fe21 : e21 = x8 + 1) => ?_)
        refine wi_goto (nx := 188) (r1 := 146) (r2 := 0) (r3 := 0) rfl ?_
        refine wp.lo (lo := [(0, .ref 236), (2, vi e21)]) ⟨rfl, rfl, trivial⟩ rfl ?_
        exact I9 e21 h ⟨rfl, (show (3 ≤ e21 ∧ e21 ≤ 800) ∧ (e21 + (h 236 4) ≤ (h 236 3)) ∧ ((h 236 4) = (h 236 4)) ∧ (3 ≤ e21) by omega), (tk_Iz X9_0 (by omega) (by omega) (show (h 236 4) + x8 = (i14 : Int) by omega) (rfl : tB i14 = tB i14) (tk_dg_t (by omega)) (by omega))⟩ (show ((h 236 3) - (h 236 4) - e21).toNat < ((h 236 3) - (h 236 4) - x8).toNat by omega)
-- method 215: Model.goOn()V
set_option maxRecDepth 100000 in
set_option maxHeartbeats 100000000 in
theorem ct_215_p146_236_L2_2 {L : Nat} {xs : Nat → Int32} {d b c : Nat} {h : hp} {cr : Nat → Nat → Option Nat} {Q : hp_Q} (hcr : CR cr)  {tB : Nat → Int} {tn tp : Int} (g : GI h)   (pp0 : h 236 4 + 2 ≤ h 236 3) (pp1 : tk_st tB tn tp = h 236 4) (pp2 : h 236 5 = h 236 4) (pp3 : 0 ≤ tp) (pp4 : tp ≤ tn) (pp5 : tp ≤ h 236 4) (pp6 : 48 ≤ h 237 (0 + (h 236 4).toNat)) (pp7 : h 237 (0 + (h 236 4).toNat) ≤ 57) (pp8 : h 236 7 ≤ 99) (xq0 : RefB tB tn h) (xq1 : tk_I tk_dg tB 10 48 3 1 tn (h 236 4) ((h 236 4) + 2) (h 236 7)) (k : ∀ (h2 : hp) , GI h2 → FR [(236, 236, some (4, 4)), (236, 236, some (6, 6)), (236, 236, some (7, 7))] h h2 → (h 236 4 ≤ h2 236 4) → (h2 236 4 ≤ h 236 3) → ((h2 236 4 = tk_nx tB tn tp ∧ h2 236 5 = tk_st tB tn tp ∧ TKk tB tn tp (h2 236 6) (h2 236 7) (h2 236 12))) → (tp ≤ tk_nx tB tn tp ∧ tk_nx tB tn tp ≤ tn) → Q (.inl none) (hp_w h2 cr) b c) : wp (md_xa (L, xs)) (d + 1) 215 (146, [(0, .ref 236), (2, vi 2)], [], hp_w h cr, b, c) Q := by
  have F0 : FR [(236, 236, some (4, 4)), (236, 236, some (6, 6)), (236, 236, some (7, 7))] h h := FR.refl
  have tb_1 : h 236 3 = tn := xq0.2.1
  have tb_2 : 0 ≤ tn ∧ tn ≤ 800 := xq0.2.2
  have b1 := gi_b (lo := 0) (hi := 800) g 236 4 rfl
  have b2 := gi_b (lo := 0) (hi := 800) g 236 3 rfl
  have b3 := gi_b (lo := 0) (hi := 800) g 236 5 rfl
  obtain ⟨i4, ei4⟩ : ∃ q : Nat, (0 + h 236 4) = (q : Int) := ⟨(0 + h 236 4).toNat, by omega⟩
  have b5 := gi_b (lo := 0) (hi := 255) g 237 i4 rfl
  have e6 : h 237 (0 + (h 236 4).toNat) = h 237 i4 := by rw [show 0 + (h 236 4).toNat = i4 by omega]
  have b7 := gi_b (lo := 0) (hi := 999) g 236 7 rfl
  refine wi_aload_n (i := 0) (x := 236) (nx := 147) (r1 := 0) (r2 := 0) (r3 := 0) rfl rfl ?_
  refine wi_iload_n (i := 2) (e := 2) (nx := 148) (r1 := 0) (r2 := 0) (r3 := 0) rfl rfl ?_
  refine wr_V (k0 := 236) (rest := []) (as := [.ref 236, vi 2]) (nx := 151) (r1 := 216) (r2 := 1) (r3 := 11) rfl rfl rfl (of_decide_eq_true rfl) rfl rfl (by decide) rfl rfl (of_decide_eq_true rfl) (of_decide_eq_true rfl) ?_
  refine wi_aload_n (i := 0) (x := 236) (nx := 1) (r1 := 0) (r2 := 0) (r3 := 0) rfl rfl ?_
  refine wr_gi0 (k0 := 236) (x := h 236 4) (nx := 4) (r1 := 11) (r2 := 4) (r3 := 0) rfl rfl (by decide) rfl ⟨rfl, rfl⟩ rfl rfl ?_
  refine wi_iload_n (i := 1) (e := 2) (nx := 5) (r1 := 0) (r2 := 0) (r3 := 0) rfl rfl ?_
  refine wr_add (nx := 6) (r1 := 0) (r2 := 0) (r3 := 0) rfl (fun e8 (fe8 : e8 = (h 236 4) + 2) => ?_)
  refine wi_aload_n (i := 0) (x := 236) (nx := 7) (r1 := 0) (r2 := 0) (r3 := 0) rfl rfl ?_
  refine wr_gi0 (k0 := 236) (x := h 236 3) (nx := 10) (r1 := 11) (r2 := 3) (r3 := 0) rfl rfl (by decide) rfl ⟨rfl, rfl⟩ rfl rfl ?_
  refine wi_icmp (cd := .ge) (nx := 13) (r1 := 27) (r2 := 0) (r3 := 0) rfl (by omega) (by omega) (fun (q9 : (h 236 3) ≤ e8) => ?_) (fun (q9 : ¬ ((h 236 3) ≤ e8)) => ?_)
  ·
    refine wi_iconst (n := (-1)) (nx := 28) (r1 := 0) (r2 := 0) (r3 := 0) rfl ?_
    refine wi_ireturn (nx := 29) (r1 := 0) (r2 := 0) (r3 := 0) rfl rfl ?_
    refine wk_i ?_
    refine wi_S (rest := []) (as := [vi (-1)]) (nx := 154) (r1 := 218) (r2 := 17) (r3 := 0) rfl rfl rfl (of_decide_eq_true rfl) rfl rfl (of_decide_eq_true rfl) (of_decide_eq_true rfl) ?_
    refine wi_iload_n (i := 0) (e := -1) (nx := 1) (r1 := 0) (r2 := 0) (r3 := 0) rfl rfl ?_
    refine wi_bipush (n := 48) (nx := 3) (r1 := 0) (r2 := 0) (r3 := 0) rfl (by decide) ?_
    refine wi_icmp (cd := .lt) (nx := 6) (r1 := 16) (r2 := 0) (r3 := 0) rfl (by omega) (by omega) (fun (q10 : (-1) < 48) => ?_) (fun (q10 : ¬ ((-1) < 48)) => by exfalso; omega)
    refine wi_iconst (n := 0) (nx := 17) (r1 := 0) (r2 := 0) (r3 := 0) rfl ?_
    refine wi_zreturn (nx := 18) (r1 := 0) (r2 := 0) (r3 := 0) rfl rfl (by omega) ?_
    refine wk_i ?_
    refine wi_if (cd := .eq) (nx := 157) (r1 := 188) (r2 := 0) (r3 := 0) rfl (by omega) (fun (q11 : 0 = 0) => ?_) (fun (q11 : ¬ (0 = 0)) => by exfalso; omega)
    refine wi_aload_n (i := 0) (x := 236) (nx := 189) (r1 := 0) (r2 := 0) (r3 := 0) rfl rfl ?_
    refine wi_iload_n (i := 2) (e := 2) (nx := 190) (r1 := 0) (r2 := 0) (r3 := 0) rfl rfl ?_
    refine wi_iconst (n := 3) (nx := 191) (r1 := 0) (r2 := 0) (r3 := 0) rfl ?_
    refine wi_icmp (cd := .le) (nx := 194) (r1 := 198) (r2 := 0) (r3 := 0) rfl (by omega) (by omega) (fun (q12 : 2 ≤ 3) => ?_) (fun (q12 : ¬ (2 ≤ 3)) => by exfalso; omega)
    obtain ⟨tI13, tI13v⟩ : tk_de tB tn (h 236 4) = (h 236 4) + 2 ∧ ((h 236 4) + 2 - (h 236 4) ≤ 3 → tk_nu tB tn (h 236 4) 0 = h 236 7) := tk_Ie xq1 (Or.inl (by omega))
    replace tI13v := tI13v (by omega)
    obtain ⟨tA14, tA14g, tA14b, tA14n⟩ := tk_atD pp1 (by omega) (show (h 236 4) = (((h 236 4)).toNat : Int) by omega) rfl (show _ ≤ tB ((h 236 4)).toNat ∧ tB ((h 236 4)).toNat ≤ _ by have yz := xq0.1 ((h 236 4)).toNat (by omega); rw [show ((h 236 4)).toNat = 0 + ((h 236 4)).toNat by omega] at yz ⊢; omega)
    clear tA14b; replace tA14g := tA14g (by omega)
    have tN15 := @tk_nx_b tB tn tp (by omega) (by omega)
    refine wi_iconst (n := 2) (nx := 199) (r1 := 0) (r2 := 0) (r3 := 0) rfl ?_
    refine wr_pf0 (k0 := 236) (x := 2) (bl := 0) (bh := 4) (nx := 202) (r1 := 11) (r2 := 6) (r3 := 0) rfl (by decide) rfl ⟨rfl, rfl⟩ rfl rfl g rfl (by omega) (fun h16 g16 w16 u16 => ?_)
    have F17 := F0.then rfl u16
    refine wi_goto (nx := 205) (r1 := 239) (r2 := 0) (r3 := 0) rfl ?_
    refine wi_aload_n (i := 0) (x := 236) (nx := 240) (r1 := 0) (r2 := 0) (r3 := 0) rfl rfl ?_
    refine wi_dup (nx := 241) (r1 := 0) (r2 := 0) (r3 := 0) rfl rfl ?_
    refine wr_gi0 (k0 := 236) (x := h 236 4) (nx := 244) (r1 := 11) (r2 := 4) (r3 := 0) rfl rfl (by decide) rfl ⟨rfl, rfl⟩ rfl (u16 236 4 rfl) ?_
    refine wi_iload_n (i := 2) (e := 2) (nx := 245) (r1 := 0) (r2 := 0) (r3 := 0) rfl rfl ?_
    refine wr_add (nx := 246) (r1 := 0) (r2 := 0) (r3 := 0) rfl (fun e18 (fe18 : e18 = (h 236 4) + 2) => ?_)
    refine wr_pf0 (k0 := 236) (x := e18) (bl := 0) (bh := 800) (nx := 249) (r1 := 11) (r2 := 4) (r3 := 0) rfl (by decide) rfl ⟨rfl, rfl⟩ rfl rfl g16 rfl (by omega) (fun h19 g19 w19 u19 => ?_)
    have F20 := F17.then rfl u19
    refine wi_return (nx := 250) (r1 := 0) (r2 := 0) (r3 := 0) rfl rfl ?_
    have e21 : h19 236 4 = e18 := w19
    have e22 : h19 236 5 = h 236 5 := ((u19 236 5 rfl).trans (u16 236 5 rfl))
    have e23 : h19 236 6 = 2 := ((u19 236 6 rfl).trans w16)
    have e24 : h19 236 7 = h 236 7 := ((u19 236 7 rfl).trans (u16 236 7 rfl))
    have b25 := gi_b (lo := -9223372036854775808) (hi := 9223372036854775807) g 236 12 rfl
    have e26 : h19 236 12 = h 236 12 := ((u19 236 12 rfl).trans (u16 236 12 rfl))
    exact k h19 g19 F20 (show (h 236 4) ≤ (h19 236 4) by omega) (show (h19 236 4) ≤ (h 236 3) by omega) (show ((h19 236 4) = tk_nx tB tn tp ∧ (h19 236 5) = tk_st tB tn tp ∧ TKk tB tn tp ((h19 236 6)) ((h19 236 7)) ((h19 236 12))) by first | assumption | exact ⟨by omega, by omega, TKk.i2 (by omega) (by omega) (by omega)⟩ | exact ⟨by omega, by omega, TKk.mv (by assumption) (by omega) (by omega) (by omega)⟩) (show tp ≤ tk_nx tB tn tp ∧ tk_nx tB tn tp ≤ tn by omega)
  ·
    refine wi_aload_n (i := 0) (x := 236) (nx := 14) (r1 := 0) (r2 := 0) (r3 := 0) rfl rfl ?_
    refine wr_gr (k0 := 236) (x := 237) (nx := 17) (r1 := 11) (r2 := 1) (r3 := 0) rfl rfl (by decide) rfl ⟨rfl, rfl⟩ rfl ?_
    refine wi_aload_n (i := 0) (x := 236) (nx := 18) (r1 := 0) (r2 := 0) (r3 := 0) rfl rfl ?_
    refine wr_gi0 (k0 := 236) (x := h 236 4) (nx := 21) (r1 := 11) (r2 := 4) (r3 := 0) rfl rfl (by decide) rfl ⟨rfl, rfl⟩ rfl rfl ?_
    refine wi_iload_n (i := 1) (e := 2) (nx := 22) (r1 := 0) (r2 := 0) (r3 := 0) rfl rfl ?_
    refine wr_add (nx := 23) (r1 := 0) (r2 := 0) (r3 := 0) rfl (fun e10 (fe10 : e10 = (h 236 4) + 2) => ?_)
    obtain ⟨i11, ei11⟩ : ∃ q : Nat, e10 = (q : Int) := ⟨(e10).toNat, by omega⟩
    have b12 := gi_b (lo := 0) (hi := 255) g 237 i11 rfl
    have ry13 := xq0.1 i11 (by omega)
    refine wr_ia (k0 := 237) (a := e10) (f := i11) (x := h 237 i11) (nx := 24) (r1 := 0) (r2 := 0) (r3 := 0) rfl (by decide) rfl (by omega) (by omega) (by decide) rfl ?_
    refine wi_goto (nx := 27) (r1 := 28) (r2 := 0) (r3 := 0) rfl ?_
    refine wi_ireturn (nx := 29) (r1 := 0) (r2 := 0) (r3 := 0) rfl rfl ?_
    refine wk_i ?_
    refine wi_S (rest := []) (as := [vi (h 237 i11)]) (nx := 154) (r1 := 218) (r2 := 17) (r3 := 0) rfl rfl rfl (of_decide_eq_true rfl) rfl rfl (of_decide_eq_true rfl) (of_decide_eq_true rfl) ?_
    refine wi_iload_n (i := 0) (e := h 237 i11) (nx := 1) (r1 := 0) (r2 := 0) (r3 := 0) rfl rfl ?_
    refine wi_bipush (n := 48) (nx := 3) (r1 := 0) (r2 := 0) (r3 := 0) rfl (by decide) ?_
    refine wi_icmp (cd := .lt) (nx := 6) (r1 := 16) (r2 := 0) (r3 := 0) rfl (by omega) (by omega) (fun (q14 : (h 237 i11) < 48) => ?_) (fun (q14 : ¬ ((h 237 i11) < 48)) => ?_)
    ·
      refine wi_iconst (n := 0) (nx := 17) (r1 := 0) (r2 := 0) (r3 := 0) rfl ?_
      refine wi_zreturn (nx := 18) (r1 := 0) (r2 := 0) (r3 := 0) rfl rfl (by omega) ?_
      refine wk_i ?_
      refine wi_if (cd := .eq) (nx := 157) (r1 := 188) (r2 := 0) (r3 := 0) rfl (by omega) (fun (q15 : 0 = 0) => ?_) (fun (q15 : ¬ (0 = 0)) => by exfalso; omega)
      refine wi_aload_n (i := 0) (x := 236) (nx := 189) (r1 := 0) (r2 := 0) (r3 := 0) rfl rfl ?_
      refine wi_iload_n (i := 2) (e := 2) (nx := 190) (r1 := 0) (r2 := 0) (r3 := 0) rfl rfl ?_
      refine wi_iconst (n := 3) (nx := 191) (r1 := 0) (r2 := 0) (r3 := 0) rfl ?_
      refine wi_icmp (cd := .le) (nx := 194) (r1 := 198) (r2 := 0) (r3 := 0) rfl (by omega) (by omega) (fun (q16 : 2 ≤ 3) => ?_) (fun (q16 : ¬ (2 ≤ 3)) => by exfalso; omega)
      obtain ⟨tI17, tI17v⟩ : tk_de tB tn (h 236 4) = (h 236 4) + 2 ∧ ((h 236 4) + 2 - (h 236 4) ≤ 3 → tk_nu tB tn (h 236 4) 0 = h 236 7) := tk_Ie2 xq1 (show (h 236 4) + 2 = (i11 : Int) by omega) (rfl : tB i11 = tB i11) (tk_dg_f (by omega))
      replace tI17v := tI17v (by omega)
      obtain ⟨tA18, tA18g, tA18b, tA18n⟩ := tk_atD pp1 (by omega) (show (h 236 4) = (((h 236 4)).toNat : Int) by omega) rfl (show _ ≤ tB ((h 236 4)).toNat ∧ tB ((h 236 4)).toNat ≤ _ by have yz := xq0.1 ((h 236 4)).toNat (by omega); rw [show ((h 236 4)).toNat = 0 + ((h 236 4)).toNat by omega] at yz ⊢; omega)
      clear tA18b; replace tA18g := tA18g (by omega)
      have tN19 := @tk_nx_b tB tn tp (by omega) (by omega)
      refine wi_iconst (n := 2) (nx := 199) (r1 := 0) (r2 := 0) (r3 := 0) rfl ?_
      refine wr_pf0 (k0 := 236) (x := 2) (bl := 0) (bh := 4) (nx := 202) (r1 := 11) (r2 := 6) (r3 := 0) rfl (by decide) rfl ⟨rfl, rfl⟩ rfl rfl g rfl (by omega) (fun h20 g20 w20 u20 => ?_)
      have F21 := F0.then rfl u20
      refine wi_goto (nx := 205) (r1 := 239) (r2 := 0) (r3 := 0) rfl ?_
      refine wi_aload_n (i := 0) (x := 236) (nx := 240) (r1 := 0) (r2 := 0) (r3 := 0) rfl rfl ?_
      refine wi_dup (nx := 241) (r1 := 0) (r2 := 0) (r3 := 0) rfl rfl ?_
      refine wr_gi0 (k0 := 236) (x := h 236 4) (nx := 244) (r1 := 11) (r2 := 4) (r3 := 0) rfl rfl (by decide) rfl ⟨rfl, rfl⟩ rfl (u20 236 4 rfl) ?_
      refine wi_iload_n (i := 2) (e := 2) (nx := 245) (r1 := 0) (r2 := 0) (r3 := 0) rfl rfl ?_
      refine wr_add (nx := 246) (r1 := 0) (r2 := 0) (r3 := 0) rfl (fun e22 (fe22 : e22 = (h 236 4) + 2) => ?_)
      refine wr_pf0 (k0 := 236) (x := e22) (bl := 0) (bh := 800) (nx := 249) (r1 := 11) (r2 := 4) (r3 := 0) rfl (by decide) rfl ⟨rfl, rfl⟩ rfl rfl g20 rfl (by omega) (fun h23 g23 w23 u23 => ?_)
      have F24 := F21.then rfl u23
      refine wi_return (nx := 250) (r1 := 0) (r2 := 0) (r3 := 0) rfl rfl ?_
      have e25 : h23 236 4 = e22 := w23
      have e26 : h23 236 5 = h 236 5 := ((u23 236 5 rfl).trans (u20 236 5 rfl))
      have e27 : h23 236 6 = 2 := ((u23 236 6 rfl).trans w20)
      have e28 : h23 236 7 = h 236 7 := ((u23 236 7 rfl).trans (u20 236 7 rfl))
      have b29 := gi_b (lo := -9223372036854775808) (hi := 9223372036854775807) g 236 12 rfl
      have e30 : h23 236 12 = h 236 12 := ((u23 236 12 rfl).trans (u20 236 12 rfl))
      exact k h23 g23 F24 (show (h 236 4) ≤ (h23 236 4) by omega) (show (h23 236 4) ≤ (h 236 3) by omega) (show ((h23 236 4) = tk_nx tB tn tp ∧ (h23 236 5) = tk_st tB tn tp ∧ TKk tB tn tp ((h23 236 6)) ((h23 236 7)) ((h23 236 12))) by first | assumption | exact ⟨by omega, by omega, TKk.i2 (by omega) (by omega) (by omega)⟩ | exact ⟨by omega, by omega, TKk.mv (by assumption) (by omega) (by omega) (by omega)⟩) (show tp ≤ tk_nx tB tn tp ∧ tk_nx tB tn tp ≤ tn by omega)
    ·
      refine wi_iload_n (i := 0) (e := h 237 i11) (nx := 7) (r1 := 0) (r2 := 0) (r3 := 0) rfl rfl ?_
      refine wi_bipush (n := 57) (nx := 9) (r1 := 0) (r2 := 0) (r3 := 0) rfl (by decide) ?_
      refine wi_icmp (cd := .gt) (nx := 12) (r1 := 16) (r2 := 0) (r3 := 0) rfl (by omega) (by omega) (fun (q15 : 57 < (h 237 i11)) => ?_) (fun (q15 : ¬ (57 < (h 237 i11))) => ?_)
      ·
        refine wi_iconst (n := 0) (nx := 17) (r1 := 0) (r2 := 0) (r3 := 0) rfl ?_
        refine wi_zreturn (nx := 18) (r1 := 0) (r2 := 0) (r3 := 0) rfl rfl (by omega) ?_
        refine wk_i ?_
        refine wi_if (cd := .eq) (nx := 157) (r1 := 188) (r2 := 0) (r3 := 0) rfl (by omega) (fun (q16 : 0 = 0) => ?_) (fun (q16 : ¬ (0 = 0)) => by exfalso; omega)
        refine wi_aload_n (i := 0) (x := 236) (nx := 189) (r1 := 0) (r2 := 0) (r3 := 0) rfl rfl ?_
        refine wi_iload_n (i := 2) (e := 2) (nx := 190) (r1 := 0) (r2 := 0) (r3 := 0) rfl rfl ?_
        refine wi_iconst (n := 3) (nx := 191) (r1 := 0) (r2 := 0) (r3 := 0) rfl ?_
        refine wi_icmp (cd := .le) (nx := 194) (r1 := 198) (r2 := 0) (r3 := 0) rfl (by omega) (by omega) (fun (q17 : 2 ≤ 3) => ?_) (fun (q17 : ¬ (2 ≤ 3)) => by exfalso; omega)
        obtain ⟨tI18, tI18v⟩ : tk_de tB tn (h 236 4) = (h 236 4) + 2 ∧ ((h 236 4) + 2 - (h 236 4) ≤ 3 → tk_nu tB tn (h 236 4) 0 = h 236 7) := tk_Ie2 xq1 (show (h 236 4) + 2 = (i11 : Int) by omega) (rfl : tB i11 = tB i11) (tk_dg_f (by omega))
        replace tI18v := tI18v (by omega)
        obtain ⟨tA19, tA19g, tA19b, tA19n⟩ := tk_atD pp1 (by omega) (show (h 236 4) = (((h 236 4)).toNat : Int) by omega) rfl (show _ ≤ tB ((h 236 4)).toNat ∧ tB ((h 236 4)).toNat ≤ _ by have yz := xq0.1 ((h 236 4)).toNat (by omega); rw [show ((h 236 4)).toNat = 0 + ((h 236 4)).toNat by omega] at yz ⊢; omega)
        clear tA19b; replace tA19g := tA19g (by omega)
        have tN20 := @tk_nx_b tB tn tp (by omega) (by omega)
        refine wi_iconst (n := 2) (nx := 199) (r1 := 0) (r2 := 0) (r3 := 0) rfl ?_
        refine wr_pf0 (k0 := 236) (x := 2) (bl := 0) (bh := 4) (nx := 202) (r1 := 11) (r2 := 6) (r3 := 0) rfl (by decide) rfl ⟨rfl, rfl⟩ rfl rfl g rfl (by omega) (fun h21 g21 w21 u21 => ?_)
        have F22 := F0.then rfl u21
        refine wi_goto (nx := 205) (r1 := 239) (r2 := 0) (r3 := 0) rfl ?_
        refine wi_aload_n (i := 0) (x := 236) (nx := 240) (r1 := 0) (r2 := 0) (r3 := 0) rfl rfl ?_
        refine wi_dup (nx := 241) (r1 := 0) (r2 := 0) (r3 := 0) rfl rfl ?_
        refine wr_gi0 (k0 := 236) (x := h 236 4) (nx := 244) (r1 := 11) (r2 := 4) (r3 := 0) rfl rfl (by decide) rfl ⟨rfl, rfl⟩ rfl (u21 236 4 rfl) ?_
        refine wi_iload_n (i := 2) (e := 2) (nx := 245) (r1 := 0) (r2 := 0) (r3 := 0) rfl rfl ?_
        refine wr_add (nx := 246) (r1 := 0) (r2 := 0) (r3 := 0) rfl (fun e23 (fe23 : e23 = (h 236 4) + 2) => ?_)
        refine wr_pf0 (k0 := 236) (x := e23) (bl := 0) (bh := 800) (nx := 249) (r1 := 11) (r2 := 4) (r3 := 0) rfl (by decide) rfl ⟨rfl, rfl⟩ rfl rfl g21 rfl (by omega) (fun h24 g24 w24 u24 => ?_)
        have F25 := F22.then rfl u24
        refine wi_return (nx := 250) (r1 := 0) (r2 := 0) (r3 := 0) rfl rfl ?_
        have e26 : h24 236 4 = e23 := w24
        have e27 : h24 236 5 = h 236 5 := ((u24 236 5 rfl).trans (u21 236 5 rfl))
        have e28 : h24 236 6 = 2 := ((u24 236 6 rfl).trans w21)
        have e29 : h24 236 7 = h 236 7 := ((u24 236 7 rfl).trans (u21 236 7 rfl))
        have b30 := gi_b (lo := -9223372036854775808) (hi := 9223372036854775807) g 236 12 rfl
        have e31 : h24 236 12 = h 236 12 := ((u24 236 12 rfl).trans (u21 236 12 rfl))
        exact k h24 g24 F25 (show (h 236 4) ≤ (h24 236 4) by omega) (show (h24 236 4) ≤ (h 236 3) by omega) (show ((h24 236 4) = tk_nx tB tn tp ∧ (h24 236 5) = tk_st tB tn tp ∧ TKk tB tn tp ((h24 236 6)) ((h24 236 7)) ((h24 236 12))) by first | assumption | exact ⟨by omega, by omega, TKk.i2 (by omega) (by omega) (by omega)⟩ | exact ⟨by omega, by omega, TKk.mv (by assumption) (by omega) (by omega) (by omega)⟩) (show tp ≤ tk_nx tB tn tp ∧ tk_nx tB tn tp ≤ tn by omega)
      ·
        refine wi_iconst (n := 1) (nx := 13) (r1 := 0) (r2 := 0) (r3 := 0) rfl ?_
        refine wi_goto (nx := 16) (r1 := 17) (r2 := 0) (r3 := 0) rfl ?_
        refine wi_zreturn (nx := 18) (r1 := 0) (r2 := 0) (r3 := 0) rfl rfl (by omega) ?_
        refine wk_i ?_
        refine wi_if (cd := .eq) (nx := 157) (r1 := 188) (r2 := 0) (r3 := 0) rfl (by omega) (fun (q16 : 1 = 0) => by exfalso; omega) (fun (q16 : ¬ (1 = 0)) => ?_)
        refine wi_iload_n (i := 2) (e := 2) (nx := 158) (r1 := 0) (r2 := 0) (r3 := 0) rfl rfl ?_
        refine wi_iconst (n := 3) (nx := 159) (r1 := 0) (r2 := 0) (r3 := 0) rfl ?_
        refine wi_icmp (cd := .ge) (nx := 162) (r1 := 182) (r2 := 0) (r3 := 0) rfl (by omega) (by omega) (fun (q17 : 3 ≤ 2) => by exfalso; omega) (fun (q17 : ¬ (3 ≤ 2)) => ?_)
        refine wi_aload_n (i := 0) (x := 236) (nx := 163) (r1 := 0) (r2 := 0) (r3 := 0) rfl rfl ?_
        refine wi_bipush (n := 10) (nx := 165) (r1 := 0) (r2 := 0) (r3 := 0) rfl (by decide) ?_
        refine wi_aload_n (i := 0) (x := 236) (nx := 166) (r1 := 0) (r2 := 0) (r3 := 0) rfl rfl ?_
        refine wr_gi0 (k0 := 236) (x := h 236 7) (nx := 169) (r1 := 11) (r2 := 7) (r3 := 0) rfl rfl (by decide) rfl ⟨rfl, rfl⟩ rfl rfl ?_
        refine wr_mul (nx := 170) (r1 := 0) (r2 := 0) (r3 := 0) rfl (fun e18 (fe18 : e18 = 10 * (h 236 7)) => ?_)
        refine wi_aload_n (i := 0) (x := 236) (nx := 171) (r1 := 0) (r2 := 0) (r3 := 0) rfl rfl ?_
        refine wi_iload_n (i := 2) (e := 2) (nx := 172) (r1 := 0) (r2 := 0) (r3 := 0) rfl rfl ?_
        refine wr_V (k0 := 236) (rest := [vi e18, .ref 236]) (as := [.ref 236, vi 2]) (nx := 175) (r1 := 216) (r2 := 1) (r3 := 11) rfl rfl rfl (of_decide_eq_true rfl) rfl rfl (by decide) rfl rfl (of_decide_eq_true rfl) (of_decide_eq_true rfl) ?_
        refine wi_aload_n (i := 0) (x := 236) (nx := 1) (r1 := 0) (r2 := 0) (r3 := 0) rfl rfl ?_
        refine wr_gi0 (k0 := 236) (x := h 236 4) (nx := 4) (r1 := 11) (r2 := 4) (r3 := 0) rfl rfl (by decide) rfl ⟨rfl, rfl⟩ rfl rfl ?_
        refine wi_iload_n (i := 1) (e := 2) (nx := 5) (r1 := 0) (r2 := 0) (r3 := 0) rfl rfl ?_
        refine wr_add (nx := 6) (r1 := 0) (r2 := 0) (r3 := 0) rfl (fun e19 (fe19 : e19 = (h 236 4) + 2) => ?_)
        refine wi_aload_n (i := 0) (x := 236) (nx := 7) (r1 := 0) (r2 := 0) (r3 := 0) rfl rfl ?_
        refine wr_gi0 (k0 := 236) (x := h 236 3) (nx := 10) (r1 := 11) (r2 := 3) (r3 := 0) rfl rfl (by decide) rfl ⟨rfl, rfl⟩ rfl rfl ?_
        refine wi_icmp (cd := .ge) (nx := 13) (r1 := 27) (r2 := 0) (r3 := 0) rfl (by omega) (by omega) (fun (q20 : (h 236 3) ≤ e19) => by exfalso; omega) (fun (q20 : ¬ ((h 236 3) ≤ e19)) => ?_)
        refine wi_aload_n (i := 0) (x := 236) (nx := 14) (r1 := 0) (r2 := 0) (r3 := 0) rfl rfl ?_
        refine wr_gr (k0 := 236) (x := 237) (nx := 17) (r1 := 11) (r2 := 1) (r3 := 0) rfl rfl (by decide) rfl ⟨rfl, rfl⟩ rfl ?_
        refine wi_aload_n (i := 0) (x := 236) (nx := 18) (r1 := 0) (r2 := 0) (r3 := 0) rfl rfl ?_
        refine wr_gi0 (k0 := 236) (x := h 236 4) (nx := 21) (r1 := 11) (r2 := 4) (r3 := 0) rfl rfl (by decide) rfl ⟨rfl, rfl⟩ rfl rfl ?_
        refine wi_iload_n (i := 1) (e := 2) (nx := 22) (r1 := 0) (r2 := 0) (r3 := 0) rfl rfl ?_
        refine wr_add (nx := 23) (r1 := 0) (r2 := 0) (r3 := 0) rfl (fun e21 (fe21 : e21 = (h 236 4) + 2) => ?_)
        refine wr_ia (k0 := 237) (a := e21) (f := i11) (x := h 237 i11) (nx := 24) (r1 := 0) (r2 := 0) (r3 := 0) rfl (by decide) rfl (by omega) (by omega) (by decide) rfl ?_
        refine wi_goto (nx := 27) (r1 := 28) (r2 := 0) (r3 := 0) rfl ?_
        refine wi_ireturn (nx := 29) (r1 := 0) (r2 := 0) (r3 := 0) rfl rfl ?_
        refine wk_i ?_
        refine wr_add (nx := 176) (r1 := 0) (r2 := 0) (r3 := 0) rfl (fun e22 (fe22 : e22 = e18 + (h 237 i11)) => ?_)
        refine wi_bipush (n := 48) (nx := 178) (r1 := 0) (r2 := 0) (r3 := 0) rfl (by decide) ?_
        refine wr_sub (nx := 179) (r1 := 0) (r2 := 0) (r3 := 0) rfl (fun e23 (fe23 : e23 = e22 - 48) => ?_)
        refine wr_pf0 (k0 := 236) (x := e23) (bl := 0) (bh := 999) (nx := 182) (r1 := 11) (r2 := 7) (r3 := 0) rfl (by decide) rfl ⟨rfl, rfl⟩ rfl rfl g rfl (by omega) (fun h24 g24 w24 u24 => ?_)
        have F25 := F0.then rfl u24
        refine wr_iincL (i := 2) (n := 1) (v := 2) (3) ([(2, vi 3), (0, .ref 236)]) (nx := 185) (r1 := 0) (r2 := 0) (r3 := 0) rfl rfl (by decide) rfl ?_
        refine wi_goto (nx := 188) (r1 := 146) (r2 := 0) (r3 := 0) rfl ?_
        refine wp.lo (lo := [(0, .ref 236), (2, vi 3)]) ⟨rfl, rfl, trivial⟩ rfl ?_
        have e27 : h24 236 4 = h 236 4 := (u24 236 4 rfl)
        have e28 : h24 236 3 = h 236 3 := (u24 236 3 rfl)
        have e29 : h24 236 5 = h 236 5 := (u24 236 5 rfl)
        have e30 : h24 237 (0 + (h24 236 4).toNat) = h 237 i4 := by rw [show 0 + (h24 236 4).toNat = i4 by omega]; exact (u24 237 i4 (fn_a (by omega) fn_0))
        have e31 : h24 236 7 = e23 := w24
        have rb32 := RefB.fr u24 rfl xq0
        have tJ33 : tk_I tk_dg tB 10 48 3 1 tn (h24 236 4) ((h24 236 4) + 3) (h24 236 7) := by rw [show h24 236 4 = (h 236 4) by omega]; exact tk_Is 100 2 (by decide) (by decide) (by decide) (by decide) xq1 (by omega) (by omega) (show (h 236 4) + 2 = (i11 : Int) by omega) (rfl : tB i11 = tB i11) (tk_dg_t (by omega)) (by omega) (fun v0 v1 => by omega)
        refine ct_215_p146_236_L2_3 hcr  g24   (show (h24 236 4) + 3 ≤ (h24 236 3) by omega) (show tk_st tB tn tp = (h24 236 4) by omega) (show (h24 236 5) = (h24 236 4) by omega) (show 0 ≤ tp by omega) (show tp ≤ tn by omega) (show tp ≤ (h24 236 4) by omega) (show 48 ≤ (h24 237 (0 + (h24 236 4).toNat)) by omega) (show (h24 237 (0 + (h24 236 4).toNat)) ≤ 57 by omega) (show (h24 236 7) ≤ 999 by omega) rb32 tJ33 (fun h26 g26 u26 (p26_0 : (h24 236 4) ≤ (h26 236 4)) (p26_1 : (h26 236 4) ≤ (h24 236 3)) (p26_2 : ((h26 236 4) = tk_nx tB tn tp ∧ (h26 236 5) = tk_st tB tn tp ∧ TKk tB tn tp ((h26 236 6)) ((h26 236 7)) ((h26 236 12)))) (p26_3 : tp ≤ tk_nx tB tn tp ∧ tk_nx tB tn tp ≤ tn) => ?_)
        have F34 := F25.then (by decide +kernel) u26
        have b35 := gi_b (lo := 0) (hi := 800) g26 236 4 rfl
        have e36 : h26 236 5 = h 236 5 := ((u26 236 5 rfl).trans (u24 236 5 rfl))
        have b37 := gi_b (lo := 0) (hi := 4) g26 236 6 rfl
        have e38 : h26 236 7 = e23 := ((u26 236 7 rfl).trans w24)
        have b39 := gi_b (lo := -9223372036854775808) (hi := 9223372036854775807) g 236 12 rfl
        have e40 : h26 236 12 = h 236 12 := ((u26 236 12 rfl).trans (u24 236 12 rfl))
        have tkk41 := p26_2.2.2
        exact k h26 g26 F34 (show (h 236 4) ≤ (h26 236 4) by omega) (show (h26 236 4) ≤ (h 236 3) by omega) (show ((h26 236 4) = tk_nx tB tn tp ∧ (h26 236 5) = tk_st tB tn tp ∧ TKk tB tn tp ((h26 236 6)) ((h26 236 7)) ((h26 236 12))) by first | assumption | exact ⟨by omega, by omega, TKk.mv (by assumption) (by omega) (by omega) (by omega)⟩) (show tp ≤ tk_nx tB tn tp ∧ tk_nx tB tn tp ≤ tn by omega)
-- method 215: Model.goOn()V
set_option maxRecDepth 100000 in
set_option maxHeartbeats 100000000 in
theorem ct_215_p146_236_L2_1 {L : Nat} {xs : Nat → Int32} {d b c : Nat} {h : hp} {cr : Nat → Nat → Option Nat} {Q : hp_Q} (hcr : CR cr)  {tB : Nat → Int} {tn tp : Int} (g : GI h)   (pp0 : h 236 4 + 1 ≤ h 236 3) (pp1 : tk_st tB tn tp = h 236 4) (pp2 : h 236 5 = h 236 4) (pp3 : 0 ≤ tp) (pp4 : tp ≤ tn) (pp5 : tp ≤ h 236 4) (pp6 : 48 ≤ h 237 (0 + (h 236 4).toNat)) (pp7 : h 237 (0 + (h 236 4).toNat) ≤ 57) (pp8 : h 236 7 ≤ 9) (xq0 : RefB tB tn h) (xq1 : tk_I tk_dg tB 10 48 3 1 tn (h 236 4) ((h 236 4) + 1) (h 236 7)) (k : ∀ (h2 : hp) , GI h2 → FR [(236, 236, some (4, 4)), (236, 236, some (6, 6)), (236, 236, some (7, 7))] h h2 → (h 236 4 ≤ h2 236 4) → (h2 236 4 ≤ h 236 3) → ((h2 236 4 = tk_nx tB tn tp ∧ h2 236 5 = tk_st tB tn tp ∧ TKk tB tn tp (h2 236 6) (h2 236 7) (h2 236 12))) → (tp ≤ tk_nx tB tn tp ∧ tk_nx tB tn tp ≤ tn) → Q (.inl none) (hp_w h2 cr) b c) : wp (md_xa (L, xs)) (d + 1) 215 (146, [(0, .ref 236), (2, vi 1)], [], hp_w h cr, b, c) Q := by
  have F0 : FR [(236, 236, some (4, 4)), (236, 236, some (6, 6)), (236, 236, some (7, 7))] h h := FR.refl
  have tb_1 : h 236 3 = tn := xq0.2.1
  have tb_2 : 0 ≤ tn ∧ tn ≤ 800 := xq0.2.2
  have b1 := gi_b (lo := 0) (hi := 800) g 236 4 rfl
  have b2 := gi_b (lo := 0) (hi := 800) g 236 3 rfl
  have b3 := gi_b (lo := 0) (hi := 800) g 236 5 rfl
  obtain ⟨i4, ei4⟩ : ∃ q : Nat, (0 + h 236 4) = (q : Int) := ⟨(0 + h 236 4).toNat, by omega⟩
  have b5 := gi_b (lo := 0) (hi := 255) g 237 i4 rfl
  have e6 : h 237 (0 + (h 236 4).toNat) = h 237 i4 := by rw [show 0 + (h 236 4).toNat = i4 by omega]
  have b7 := gi_b (lo := 0) (hi := 999) g 236 7 rfl
  refine wi_aload_n (i := 0) (x := 236) (nx := 147) (r1 := 0) (r2 := 0) (r3 := 0) rfl rfl ?_
  refine wi_iload_n (i := 2) (e := 1) (nx := 148) (r1 := 0) (r2 := 0) (r3 := 0) rfl rfl ?_
  refine wr_V (k0 := 236) (rest := []) (as := [.ref 236, vi 1]) (nx := 151) (r1 := 216) (r2 := 1) (r3 := 11) rfl rfl rfl (of_decide_eq_true rfl) rfl rfl (by decide) rfl rfl (of_decide_eq_true rfl) (of_decide_eq_true rfl) ?_
  refine wi_aload_n (i := 0) (x := 236) (nx := 1) (r1 := 0) (r2 := 0) (r3 := 0) rfl rfl ?_
  refine wr_gi0 (k0 := 236) (x := h 236 4) (nx := 4) (r1 := 11) (r2 := 4) (r3 := 0) rfl rfl (by decide) rfl ⟨rfl, rfl⟩ rfl rfl ?_
  refine wi_iload_n (i := 1) (e := 1) (nx := 5) (r1 := 0) (r2 := 0) (r3 := 0) rfl rfl ?_
  refine wr_add (nx := 6) (r1 := 0) (r2 := 0) (r3 := 0) rfl (fun e8 (fe8 : e8 = (h 236 4) + 1) => ?_)
  refine wi_aload_n (i := 0) (x := 236) (nx := 7) (r1 := 0) (r2 := 0) (r3 := 0) rfl rfl ?_
  refine wr_gi0 (k0 := 236) (x := h 236 3) (nx := 10) (r1 := 11) (r2 := 3) (r3 := 0) rfl rfl (by decide) rfl ⟨rfl, rfl⟩ rfl rfl ?_
  refine wi_icmp (cd := .ge) (nx := 13) (r1 := 27) (r2 := 0) (r3 := 0) rfl (by omega) (by omega) (fun (q9 : (h 236 3) ≤ e8) => ?_) (fun (q9 : ¬ ((h 236 3) ≤ e8)) => ?_)
  ·
    refine wi_iconst (n := (-1)) (nx := 28) (r1 := 0) (r2 := 0) (r3 := 0) rfl ?_
    refine wi_ireturn (nx := 29) (r1 := 0) (r2 := 0) (r3 := 0) rfl rfl ?_
    refine wk_i ?_
    refine wi_S (rest := []) (as := [vi (-1)]) (nx := 154) (r1 := 218) (r2 := 17) (r3 := 0) rfl rfl rfl (of_decide_eq_true rfl) rfl rfl (of_decide_eq_true rfl) (of_decide_eq_true rfl) ?_
    refine wi_iload_n (i := 0) (e := -1) (nx := 1) (r1 := 0) (r2 := 0) (r3 := 0) rfl rfl ?_
    refine wi_bipush (n := 48) (nx := 3) (r1 := 0) (r2 := 0) (r3 := 0) rfl (by decide) ?_
    refine wi_icmp (cd := .lt) (nx := 6) (r1 := 16) (r2 := 0) (r3 := 0) rfl (by omega) (by omega) (fun (q10 : (-1) < 48) => ?_) (fun (q10 : ¬ ((-1) < 48)) => by exfalso; omega)
    refine wi_iconst (n := 0) (nx := 17) (r1 := 0) (r2 := 0) (r3 := 0) rfl ?_
    refine wi_zreturn (nx := 18) (r1 := 0) (r2 := 0) (r3 := 0) rfl rfl (by omega) ?_
    refine wk_i ?_
    refine wi_if (cd := .eq) (nx := 157) (r1 := 188) (r2 := 0) (r3 := 0) rfl (by omega) (fun (q11 : 0 = 0) => ?_) (fun (q11 : ¬ (0 = 0)) => by exfalso; omega)
    refine wi_aload_n (i := 0) (x := 236) (nx := 189) (r1 := 0) (r2 := 0) (r3 := 0) rfl rfl ?_
    refine wi_iload_n (i := 2) (e := 1) (nx := 190) (r1 := 0) (r2 := 0) (r3 := 0) rfl rfl ?_
    refine wi_iconst (n := 3) (nx := 191) (r1 := 0) (r2 := 0) (r3 := 0) rfl ?_
    refine wi_icmp (cd := .le) (nx := 194) (r1 := 198) (r2 := 0) (r3 := 0) rfl (by omega) (by omega) (fun (q12 : 1 ≤ 3) => ?_) (fun (q12 : ¬ (1 ≤ 3)) => by exfalso; omega)
    obtain ⟨tI13, tI13v⟩ : tk_de tB tn (h 236 4) = (h 236 4) + 1 ∧ ((h 236 4) + 1 - (h 236 4) ≤ 3 → tk_nu tB tn (h 236 4) 0 = h 236 7) := tk_Ie xq1 (Or.inl (by omega))
    replace tI13v := tI13v (by omega)
    obtain ⟨tA14, tA14g, tA14b, tA14n⟩ := tk_atD pp1 (by omega) (show (h 236 4) = (((h 236 4)).toNat : Int) by omega) rfl (show _ ≤ tB ((h 236 4)).toNat ∧ tB ((h 236 4)).toNat ≤ _ by have yz := xq0.1 ((h 236 4)).toNat (by omega); rw [show ((h 236 4)).toNat = 0 + ((h 236 4)).toNat by omega] at yz ⊢; omega)
    clear tA14b; replace tA14g := tA14g (by omega)
    have tN15 := @tk_nx_b tB tn tp (by omega) (by omega)
    refine wi_iconst (n := 2) (nx := 199) (r1 := 0) (r2 := 0) (r3 := 0) rfl ?_
    refine wr_pf0 (k0 := 236) (x := 2) (bl := 0) (bh := 4) (nx := 202) (r1 := 11) (r2 := 6) (r3 := 0) rfl (by decide) rfl ⟨rfl, rfl⟩ rfl rfl g rfl (by omega) (fun h16 g16 w16 u16 => ?_)
    have F17 := F0.then rfl u16
    refine wi_goto (nx := 205) (r1 := 239) (r2 := 0) (r3 := 0) rfl ?_
    refine wi_aload_n (i := 0) (x := 236) (nx := 240) (r1 := 0) (r2 := 0) (r3 := 0) rfl rfl ?_
    refine wi_dup (nx := 241) (r1 := 0) (r2 := 0) (r3 := 0) rfl rfl ?_
    refine wr_gi0 (k0 := 236) (x := h 236 4) (nx := 244) (r1 := 11) (r2 := 4) (r3 := 0) rfl rfl (by decide) rfl ⟨rfl, rfl⟩ rfl (u16 236 4 rfl) ?_
    refine wi_iload_n (i := 2) (e := 1) (nx := 245) (r1 := 0) (r2 := 0) (r3 := 0) rfl rfl ?_
    refine wr_add (nx := 246) (r1 := 0) (r2 := 0) (r3 := 0) rfl (fun e18 (fe18 : e18 = (h 236 4) + 1) => ?_)
    refine wr_pf0 (k0 := 236) (x := e18) (bl := 0) (bh := 800) (nx := 249) (r1 := 11) (r2 := 4) (r3 := 0) rfl (by decide) rfl ⟨rfl, rfl⟩ rfl rfl g16 rfl (by omega) (fun h19 g19 w19 u19 => ?_)
    have F20 := F17.then rfl u19
    refine wi_return (nx := 250) (r1 := 0) (r2 := 0) (r3 := 0) rfl rfl ?_
    have e21 : h19 236 4 = e18 := w19
    have e22 : h19 236 5 = h 236 5 := ((u19 236 5 rfl).trans (u16 236 5 rfl))
    have e23 : h19 236 6 = 2 := ((u19 236 6 rfl).trans w16)
    have e24 : h19 236 7 = h 236 7 := ((u19 236 7 rfl).trans (u16 236 7 rfl))
    have b25 := gi_b (lo := -9223372036854775808) (hi := 9223372036854775807) g 236 12 rfl
    have e26 : h19 236 12 = h 236 12 := ((u19 236 12 rfl).trans (u16 236 12 rfl))
    exact k h19 g19 F20 (show (h 236 4) ≤ (h19 236 4) by omega) (show (h19 236 4) ≤ (h 236 3) by omega) (show ((h19 236 4) = tk_nx tB tn tp ∧ (h19 236 5) = tk_st tB tn tp ∧ TKk tB tn tp ((h19 236 6)) ((h19 236 7)) ((h19 236 12))) by first | assumption | exact ⟨by omega, by omega, TKk.i2 (by omega) (by omega) (by omega)⟩ | exact ⟨by omega, by omega, TKk.mv (by assumption) (by omega) (by omega) (by omega)⟩) (show tp ≤ tk_nx tB tn tp ∧ tk_nx tB tn tp ≤ tn by omega)
  ·
    refine wi_aload_n (i := 0) (x := 236) (nx := 14) (r1 := 0) (r2 := 0) (r3 := 0) rfl rfl ?_
    refine wr_gr (k0 := 236) (x := 237) (nx := 17) (r1 := 11) (r2 := 1) (r3 := 0) rfl rfl (by decide) rfl ⟨rfl, rfl⟩ rfl ?_
    refine wi_aload_n (i := 0) (x := 236) (nx := 18) (r1 := 0) (r2 := 0) (r3 := 0) rfl rfl ?_
    refine wr_gi0 (k0 := 236) (x := h 236 4) (nx := 21) (r1 := 11) (r2 := 4) (r3 := 0) rfl rfl (by decide) rfl ⟨rfl, rfl⟩ rfl rfl ?_
    refine wi_iload_n (i := 1) (e := 1) (nx := 22) (r1 := 0) (r2 := 0) (r3 := 0) rfl rfl ?_
    refine wr_add (nx := 23) (r1 := 0) (r2 := 0) (r3 := 0) rfl (fun e10 (fe10 : e10 = (h 236 4) + 1) => ?_)
    obtain ⟨i11, ei11⟩ : ∃ q : Nat, e10 = (q : Int) := ⟨(e10).toNat, by omega⟩
    have b12 := gi_b (lo := 0) (hi := 255) g 237 i11 rfl
    have ry13 := xq0.1 i11 (by omega)
    refine wr_ia (k0 := 237) (a := e10) (f := i11) (x := h 237 i11) (nx := 24) (r1 := 0) (r2 := 0) (r3 := 0) rfl (by decide) rfl (by omega) (by omega) (by decide) rfl ?_
    refine wi_goto (nx := 27) (r1 := 28) (r2 := 0) (r3 := 0) rfl ?_
    refine wi_ireturn (nx := 29) (r1 := 0) (r2 := 0) (r3 := 0) rfl rfl ?_
    refine wk_i ?_
    refine wi_S (rest := []) (as := [vi (h 237 i11)]) (nx := 154) (r1 := 218) (r2 := 17) (r3 := 0) rfl rfl rfl (of_decide_eq_true rfl) rfl rfl (of_decide_eq_true rfl) (of_decide_eq_true rfl) ?_
    refine wi_iload_n (i := 0) (e := h 237 i11) (nx := 1) (r1 := 0) (r2 := 0) (r3 := 0) rfl rfl ?_
    refine wi_bipush (n := 48) (nx := 3) (r1 := 0) (r2 := 0) (r3 := 0) rfl (by decide) ?_
    refine wi_icmp (cd := .lt) (nx := 6) (r1 := 16) (r2 := 0) (r3 := 0) rfl (by omega) (by omega) (fun (q14 : (h 237 i11) < 48) => ?_) (fun (q14 : ¬ ((h 237 i11) < 48)) => ?_)
    ·
      refine wi_iconst (n := 0) (nx := 17) (r1 := 0) (r2 := 0) (r3 := 0) rfl ?_
      refine wi_zreturn (nx := 18) (r1 := 0) (r2 := 0) (r3 := 0) rfl rfl (by omega) ?_
      refine wk_i ?_
      refine wi_if (cd := .eq) (nx := 157) (r1 := 188) (r2 := 0) (r3 := 0) rfl (by omega) (fun (q15 : 0 = 0) => ?_) (fun (q15 : ¬ (0 = 0)) => by exfalso; omega)
      refine wi_aload_n (i := 0) (x := 236) (nx := 189) (r1 := 0) (r2 := 0) (r3 := 0) rfl rfl ?_
      refine wi_iload_n (i := 2) (e := 1) (nx := 190) (r1 := 0) (r2 := 0) (r3 := 0) rfl rfl ?_
      refine wi_iconst (n := 3) (nx := 191) (r1 := 0) (r2 := 0) (r3 := 0) rfl ?_
      refine wi_icmp (cd := .le) (nx := 194) (r1 := 198) (r2 := 0) (r3 := 0) rfl (by omega) (by omega) (fun (q16 : 1 ≤ 3) => ?_) (fun (q16 : ¬ (1 ≤ 3)) => by exfalso; omega)
      obtain ⟨tI17, tI17v⟩ : tk_de tB tn (h 236 4) = (h 236 4) + 1 ∧ ((h 236 4) + 1 - (h 236 4) ≤ 3 → tk_nu tB tn (h 236 4) 0 = h 236 7) := tk_Ie2 xq1 (show (h 236 4) + 1 = (i11 : Int) by omega) (rfl : tB i11 = tB i11) (tk_dg_f (by omega))
      replace tI17v := tI17v (by omega)
      obtain ⟨tA18, tA18g, tA18b, tA18n⟩ := tk_atD pp1 (by omega) (show (h 236 4) = (((h 236 4)).toNat : Int) by omega) rfl (show _ ≤ tB ((h 236 4)).toNat ∧ tB ((h 236 4)).toNat ≤ _ by have yz := xq0.1 ((h 236 4)).toNat (by omega); rw [show ((h 236 4)).toNat = 0 + ((h 236 4)).toNat by omega] at yz ⊢; omega)
      clear tA18b; replace tA18g := tA18g (by omega)
      have tN19 := @tk_nx_b tB tn tp (by omega) (by omega)
      refine wi_iconst (n := 2) (nx := 199) (r1 := 0) (r2 := 0) (r3 := 0) rfl ?_
      refine wr_pf0 (k0 := 236) (x := 2) (bl := 0) (bh := 4) (nx := 202) (r1 := 11) (r2 := 6) (r3 := 0) rfl (by decide) rfl ⟨rfl, rfl⟩ rfl rfl g rfl (by omega) (fun h20 g20 w20 u20 => ?_)
      have F21 := F0.then rfl u20
      refine wi_goto (nx := 205) (r1 := 239) (r2 := 0) (r3 := 0) rfl ?_
      refine wi_aload_n (i := 0) (x := 236) (nx := 240) (r1 := 0) (r2 := 0) (r3 := 0) rfl rfl ?_
      refine wi_dup (nx := 241) (r1 := 0) (r2 := 0) (r3 := 0) rfl rfl ?_
      refine wr_gi0 (k0 := 236) (x := h 236 4) (nx := 244) (r1 := 11) (r2 := 4) (r3 := 0) rfl rfl (by decide) rfl ⟨rfl, rfl⟩ rfl (u20 236 4 rfl) ?_
      refine wi_iload_n (i := 2) (e := 1) (nx := 245) (r1 := 0) (r2 := 0) (r3 := 0) rfl rfl ?_
      refine wr_add (nx := 246) (r1 := 0) (r2 := 0) (r3 := 0) rfl (fun e22 (fe22 : e22 = (h 236 4) + 1) => ?_)
      refine wr_pf0 (k0 := 236) (x := e22) (bl := 0) (bh := 800) (nx := 249) (r1 := 11) (r2 := 4) (r3 := 0) rfl (by decide) rfl ⟨rfl, rfl⟩ rfl rfl g20 rfl (by omega) (fun h23 g23 w23 u23 => ?_)
      have F24 := F21.then rfl u23
      refine wi_return (nx := 250) (r1 := 0) (r2 := 0) (r3 := 0) rfl rfl ?_
      have e25 : h23 236 4 = e22 := w23
      have e26 : h23 236 5 = h 236 5 := ((u23 236 5 rfl).trans (u20 236 5 rfl))
      have e27 : h23 236 6 = 2 := ((u23 236 6 rfl).trans w20)
      have e28 : h23 236 7 = h 236 7 := ((u23 236 7 rfl).trans (u20 236 7 rfl))
      have b29 := gi_b (lo := -9223372036854775808) (hi := 9223372036854775807) g 236 12 rfl
      have e30 : h23 236 12 = h 236 12 := ((u23 236 12 rfl).trans (u20 236 12 rfl))
      exact k h23 g23 F24 (show (h 236 4) ≤ (h23 236 4) by omega) (show (h23 236 4) ≤ (h 236 3) by omega) (show ((h23 236 4) = tk_nx tB tn tp ∧ (h23 236 5) = tk_st tB tn tp ∧ TKk tB tn tp ((h23 236 6)) ((h23 236 7)) ((h23 236 12))) by first | assumption | exact ⟨by omega, by omega, TKk.i2 (by omega) (by omega) (by omega)⟩ | exact ⟨by omega, by omega, TKk.mv (by assumption) (by omega) (by omega) (by omega)⟩) (show tp ≤ tk_nx tB tn tp ∧ tk_nx tB tn tp ≤ tn by omega)
    ·
      refine wi_iload_n (i := 0) (e := h 237 i11) (nx := 7) (r1 := 0) (r2 := 0) (r3 := 0) rfl rfl ?_
      refine wi_bipush (n := 57) (nx := 9) (r1 := 0) (r2 := 0) (r3 := 0) rfl (by decide) ?_
      refine wi_icmp (cd := .gt) (nx := 12) (r1 := 16) (r2 := 0) (r3 := 0) rfl (by omega) (by omega) (fun (q15 : 57 < (h 237 i11)) => ?_) (fun (q15 : ¬ (57 < (h 237 i11))) => ?_)
      ·
        refine wi_iconst (n := 0) (nx := 17) (r1 := 0) (r2 := 0) (r3 := 0) rfl ?_
        refine wi_zreturn (nx := 18) (r1 := 0) (r2 := 0) (r3 := 0) rfl rfl (by omega) ?_
        refine wk_i ?_
        refine wi_if (cd := .eq) (nx := 157) (r1 := 188) (r2 := 0) (r3 := 0) rfl (by omega) (fun (q16 : 0 = 0) => ?_) (fun (q16 : ¬ (0 = 0)) => by exfalso; omega)
        refine wi_aload_n (i := 0) (x := 236) (nx := 189) (r1 := 0) (r2 := 0) (r3 := 0) rfl rfl ?_
        refine wi_iload_n (i := 2) (e := 1) (nx := 190) (r1 := 0) (r2 := 0) (r3 := 0) rfl rfl ?_
        refine wi_iconst (n := 3) (nx := 191) (r1 := 0) (r2 := 0) (r3 := 0) rfl ?_
        refine wi_icmp (cd := .le) (nx := 194) (r1 := 198) (r2 := 0) (r3 := 0) rfl (by omega) (by omega) (fun (q17 : 1 ≤ 3) => ?_) (fun (q17 : ¬ (1 ≤ 3)) => by exfalso; omega)
        obtain ⟨tI18, tI18v⟩ : tk_de tB tn (h 236 4) = (h 236 4) + 1 ∧ ((h 236 4) + 1 - (h 236 4) ≤ 3 → tk_nu tB tn (h 236 4) 0 = h 236 7) := tk_Ie2 xq1 (show (h 236 4) + 1 = (i11 : Int) by omega) (rfl : tB i11 = tB i11) (tk_dg_f (by omega))
        replace tI18v := tI18v (by omega)
        obtain ⟨tA19, tA19g, tA19b, tA19n⟩ := tk_atD pp1 (by omega) (show (h 236 4) = (((h 236 4)).toNat : Int) by omega) rfl (show _ ≤ tB ((h 236 4)).toNat ∧ tB ((h 236 4)).toNat ≤ _ by have yz := xq0.1 ((h 236 4)).toNat (by omega); rw [show ((h 236 4)).toNat = 0 + ((h 236 4)).toNat by omega] at yz ⊢; omega)
        clear tA19b; replace tA19g := tA19g (by omega)
        have tN20 := @tk_nx_b tB tn tp (by omega) (by omega)
        refine wi_iconst (n := 2) (nx := 199) (r1 := 0) (r2 := 0) (r3 := 0) rfl ?_
        refine wr_pf0 (k0 := 236) (x := 2) (bl := 0) (bh := 4) (nx := 202) (r1 := 11) (r2 := 6) (r3 := 0) rfl (by decide) rfl ⟨rfl, rfl⟩ rfl rfl g rfl (by omega) (fun h21 g21 w21 u21 => ?_)
        have F22 := F0.then rfl u21
        refine wi_goto (nx := 205) (r1 := 239) (r2 := 0) (r3 := 0) rfl ?_
        refine wi_aload_n (i := 0) (x := 236) (nx := 240) (r1 := 0) (r2 := 0) (r3 := 0) rfl rfl ?_
        refine wi_dup (nx := 241) (r1 := 0) (r2 := 0) (r3 := 0) rfl rfl ?_
        refine wr_gi0 (k0 := 236) (x := h 236 4) (nx := 244) (r1 := 11) (r2 := 4) (r3 := 0) rfl rfl (by decide) rfl ⟨rfl, rfl⟩ rfl (u21 236 4 rfl) ?_
        refine wi_iload_n (i := 2) (e := 1) (nx := 245) (r1 := 0) (r2 := 0) (r3 := 0) rfl rfl ?_
        refine wr_add (nx := 246) (r1 := 0) (r2 := 0) (r3 := 0) rfl (fun e23 (fe23 : e23 = (h 236 4) + 1) => ?_)
        refine wr_pf0 (k0 := 236) (x := e23) (bl := 0) (bh := 800) (nx := 249) (r1 := 11) (r2 := 4) (r3 := 0) rfl (by decide) rfl ⟨rfl, rfl⟩ rfl rfl g21 rfl (by omega) (fun h24 g24 w24 u24 => ?_)
        have F25 := F22.then rfl u24
        refine wi_return (nx := 250) (r1 := 0) (r2 := 0) (r3 := 0) rfl rfl ?_
        have e26 : h24 236 4 = e23 := w24
        have e27 : h24 236 5 = h 236 5 := ((u24 236 5 rfl).trans (u21 236 5 rfl))
        have e28 : h24 236 6 = 2 := ((u24 236 6 rfl).trans w21)
        have e29 : h24 236 7 = h 236 7 := ((u24 236 7 rfl).trans (u21 236 7 rfl))
        have b30 := gi_b (lo := -9223372036854775808) (hi := 9223372036854775807) g 236 12 rfl
        have e31 : h24 236 12 = h 236 12 := ((u24 236 12 rfl).trans (u21 236 12 rfl))
        exact k h24 g24 F25 (show (h 236 4) ≤ (h24 236 4) by omega) (show (h24 236 4) ≤ (h 236 3) by omega) (show ((h24 236 4) = tk_nx tB tn tp ∧ (h24 236 5) = tk_st tB tn tp ∧ TKk tB tn tp ((h24 236 6)) ((h24 236 7)) ((h24 236 12))) by first | assumption | exact ⟨by omega, by omega, TKk.i2 (by omega) (by omega) (by omega)⟩ | exact ⟨by omega, by omega, TKk.mv (by assumption) (by omega) (by omega) (by omega)⟩) (show tp ≤ tk_nx tB tn tp ∧ tk_nx tB tn tp ≤ tn by omega)
      ·
        refine wi_iconst (n := 1) (nx := 13) (r1 := 0) (r2 := 0) (r3 := 0) rfl ?_
        refine wi_goto (nx := 16) (r1 := 17) (r2 := 0) (r3 := 0) rfl ?_
        refine wi_zreturn (nx := 18) (r1 := 0) (r2 := 0) (r3 := 0) rfl rfl (by omega) ?_
        refine wk_i ?_
        refine wi_if (cd := .eq) (nx := 157) (r1 := 188) (r2 := 0) (r3 := 0) rfl (by omega) (fun (q16 : 1 = 0) => by exfalso; omega) (fun (q16 : ¬ (1 = 0)) => ?_)
        refine wi_iload_n (i := 2) (e := 1) (nx := 158) (r1 := 0) (r2 := 0) (r3 := 0) rfl rfl ?_
        refine wi_iconst (n := 3) (nx := 159) (r1 := 0) (r2 := 0) (r3 := 0) rfl ?_
        refine wi_icmp (cd := .ge) (nx := 162) (r1 := 182) (r2 := 0) (r3 := 0) rfl (by omega) (by omega) (fun (q17 : 3 ≤ 1) => by exfalso; omega) (fun (q17 : ¬ (3 ≤ 1)) => ?_)
        refine wi_aload_n (i := 0) (x := 236) (nx := 163) (r1 := 0) (r2 := 0) (r3 := 0) rfl rfl ?_
        refine wi_bipush (n := 10) (nx := 165) (r1 := 0) (r2 := 0) (r3 := 0) rfl (by decide) ?_
        refine wi_aload_n (i := 0) (x := 236) (nx := 166) (r1 := 0) (r2 := 0) (r3 := 0) rfl rfl ?_
        refine wr_gi0 (k0 := 236) (x := h 236 7) (nx := 169) (r1 := 11) (r2 := 7) (r3 := 0) rfl rfl (by decide) rfl ⟨rfl, rfl⟩ rfl rfl ?_
        refine wr_mul (nx := 170) (r1 := 0) (r2 := 0) (r3 := 0) rfl (fun e18 (fe18 : e18 = 10 * (h 236 7)) => ?_)
        refine wi_aload_n (i := 0) (x := 236) (nx := 171) (r1 := 0) (r2 := 0) (r3 := 0) rfl rfl ?_
        refine wi_iload_n (i := 2) (e := 1) (nx := 172) (r1 := 0) (r2 := 0) (r3 := 0) rfl rfl ?_
        refine wr_V (k0 := 236) (rest := [vi e18, .ref 236]) (as := [.ref 236, vi 1]) (nx := 175) (r1 := 216) (r2 := 1) (r3 := 11) rfl rfl rfl (of_decide_eq_true rfl) rfl rfl (by decide) rfl rfl (of_decide_eq_true rfl) (of_decide_eq_true rfl) ?_
        refine wi_aload_n (i := 0) (x := 236) (nx := 1) (r1 := 0) (r2 := 0) (r3 := 0) rfl rfl ?_
        refine wr_gi0 (k0 := 236) (x := h 236 4) (nx := 4) (r1 := 11) (r2 := 4) (r3 := 0) rfl rfl (by decide) rfl ⟨rfl, rfl⟩ rfl rfl ?_
        refine wi_iload_n (i := 1) (e := 1) (nx := 5) (r1 := 0) (r2 := 0) (r3 := 0) rfl rfl ?_
        refine wr_add (nx := 6) (r1 := 0) (r2 := 0) (r3 := 0) rfl (fun e19 (fe19 : e19 = (h 236 4) + 1) => ?_)
        refine wi_aload_n (i := 0) (x := 236) (nx := 7) (r1 := 0) (r2 := 0) (r3 := 0) rfl rfl ?_
        refine wr_gi0 (k0 := 236) (x := h 236 3) (nx := 10) (r1 := 11) (r2 := 3) (r3 := 0) rfl rfl (by decide) rfl ⟨rfl, rfl⟩ rfl rfl ?_
        refine wi_icmp (cd := .ge) (nx := 13) (r1 := 27) (r2 := 0) (r3 := 0) rfl (by omega) (by omega) (fun (q20 : (h 236 3) ≤ e19) => by exfalso; omega) (fun (q20 : ¬ ((h 236 3) ≤ e19)) => ?_)
        refine wi_aload_n (i := 0) (x := 236) (nx := 14) (r1 := 0) (r2 := 0) (r3 := 0) rfl rfl ?_
        refine wr_gr (k0 := 236) (x := 237) (nx := 17) (r1 := 11) (r2 := 1) (r3 := 0) rfl rfl (by decide) rfl ⟨rfl, rfl⟩ rfl ?_
        refine wi_aload_n (i := 0) (x := 236) (nx := 18) (r1 := 0) (r2 := 0) (r3 := 0) rfl rfl ?_
        refine wr_gi0 (k0 := 236) (x := h 236 4) (nx := 21) (r1 := 11) (r2 := 4) (r3 := 0) rfl rfl (by decide) rfl ⟨rfl, rfl⟩ rfl rfl ?_
        refine wi_iload_n (i := 1) (e := 1) (nx := 22) (r1 := 0) (r2 := 0) (r3 := 0) rfl rfl ?_
        refine wr_add (nx := 23) (r1 := 0) (r2 := 0) (r3 := 0) rfl (fun e21 (fe21 : e21 = (h 236 4) + 1) => ?_)
        refine wr_ia (k0 := 237) (a := e21) (f := i11) (x := h 237 i11) (nx := 24) (r1 := 0) (r2 := 0) (r3 := 0) rfl (by decide) rfl (by omega) (by omega) (by decide) rfl ?_
        refine wi_goto (nx := 27) (r1 := 28) (r2 := 0) (r3 := 0) rfl ?_
        refine wi_ireturn (nx := 29) (r1 := 0) (r2 := 0) (r3 := 0) rfl rfl ?_
        refine wk_i ?_
        refine wr_add (nx := 176) (r1 := 0) (r2 := 0) (r3 := 0) rfl (fun e22 (fe22 : e22 = e18 + (h 237 i11)) => ?_)
        refine wi_bipush (n := 48) (nx := 178) (r1 := 0) (r2 := 0) (r3 := 0) rfl (by decide) ?_
        refine wr_sub (nx := 179) (r1 := 0) (r2 := 0) (r3 := 0) rfl (fun e23 (fe23 : e23 = e22 - 48) => ?_)
        refine wr_pf0 (k0 := 236) (x := e23) (bl := 0) (bh := 999) (nx := 182) (r1 := 11) (r2 := 7) (r3 := 0) rfl (by decide) rfl ⟨rfl, rfl⟩ rfl rfl g rfl (by omega) (fun h24 g24 w24 u24 => ?_)
        have F25 := F0.then rfl u24
        refine wr_iincL (i := 2) (n := 1) (v := 1) (2) ([(2, vi 2), (0, .ref 236)]) (nx := 185) (r1 := 0) (r2 := 0) (r3 := 0) rfl rfl (by decide) rfl ?_
        refine wi_goto (nx := 188) (r1 := 146) (r2 := 0) (r3 := 0) rfl ?_
        refine wp.lo (lo := [(0, .ref 236), (2, vi 2)]) ⟨rfl, rfl, trivial⟩ rfl ?_
        have e27 : h24 236 4 = h 236 4 := (u24 236 4 rfl)
        have e28 : h24 236 3 = h 236 3 := (u24 236 3 rfl)
        have e29 : h24 236 5 = h 236 5 := (u24 236 5 rfl)
        have e30 : h24 237 (0 + (h24 236 4).toNat) = h 237 i4 := by rw [show 0 + (h24 236 4).toNat = i4 by omega]; exact (u24 237 i4 (fn_a (by omega) fn_0))
        have e31 : h24 236 7 = e23 := w24
        have rb32 := RefB.fr u24 rfl xq0
        have tJ33 : tk_I tk_dg tB 10 48 3 1 tn (h24 236 4) ((h24 236 4) + 2) (h24 236 7) := by rw [show h24 236 4 = (h 236 4) by omega]; exact tk_Is 100 2 (by decide) (by decide) (by decide) (by decide) xq1 (by omega) (by omega) (show (h 236 4) + 1 = (i11 : Int) by omega) (rfl : tB i11 = tB i11) (tk_dg_t (by omega)) (by omega) (fun v0 v1 => by omega)
        refine ct_215_p146_236_L2_2 hcr  g24   (show (h24 236 4) + 2 ≤ (h24 236 3) by omega) (show tk_st tB tn tp = (h24 236 4) by omega) (show (h24 236 5) = (h24 236 4) by omega) (show 0 ≤ tp by omega) (show tp ≤ tn by omega) (show tp ≤ (h24 236 4) by omega) (show 48 ≤ (h24 237 (0 + (h24 236 4).toNat)) by omega) (show (h24 237 (0 + (h24 236 4).toNat)) ≤ 57 by omega) (show (h24 236 7) ≤ 99 by omega) rb32 tJ33 (fun h26 g26 u26 (p26_0 : (h24 236 4) ≤ (h26 236 4)) (p26_1 : (h26 236 4) ≤ (h24 236 3)) (p26_2 : ((h26 236 4) = tk_nx tB tn tp ∧ (h26 236 5) = tk_st tB tn tp ∧ TKk tB tn tp ((h26 236 6)) ((h26 236 7)) ((h26 236 12)))) (p26_3 : tp ≤ tk_nx tB tn tp ∧ tk_nx tB tn tp ≤ tn) => ?_)
        have F34 := F25.then (by decide +kernel) u26
        have b35 := gi_b (lo := 0) (hi := 800) g26 236 4 rfl
        have e36 : h26 236 5 = h 236 5 := ((u26 236 5 rfl).trans (u24 236 5 rfl))
        have b37 := gi_b (lo := 0) (hi := 4) g26 236 6 rfl
        have b38 := gi_b (lo := 0) (hi := 999) g26 236 7 rfl
        have b39 := gi_b (lo := -9223372036854775808) (hi := 9223372036854775807) g 236 12 rfl
        have e40 : h26 236 12 = h 236 12 := ((u26 236 12 rfl).trans (u24 236 12 rfl))
        have tkk41 := p26_2.2.2
        exact k h26 g26 F34 (show (h 236 4) ≤ (h26 236 4) by omega) (show (h26 236 4) ≤ (h 236 3) by omega) (show ((h26 236 4) = tk_nx tB tn tp ∧ (h26 236 5) = tk_st tB tn tp ∧ TKk tB tn tp ((h26 236 6)) ((h26 236 7)) ((h26 236 12))) by first | assumption | exact ⟨by omega, by omega, TKk.mv (by assumption) (by omega) (by omega) (by omega)⟩) (show tp ≤ tk_nx tB tn tp ∧ tk_nx tB tn tp ≤ tn by omega)
-- method 215: Model.goOn()V
set_option maxRecDepth 100000 in
set_option maxHeartbeats 100000000 in
theorem ct_215_p146_236_L2_0 {L : Nat} {xs : Nat → Int32} {d b c : Nat} {h : hp} {cr : Nat → Nat → Option Nat} {Q : hp_Q} (hcr : CR cr)  {tB : Nat → Int} {tn tp : Int} (g : GI h)   (pp0 : h 236 4 + 1 ≤ h 236 3) (pp1 : tk_st tB tn tp = h 236 4) (pp2 : h 236 5 = h 236 4) (pp3 : 0 ≤ tp) (pp4 : tp ≤ tn) (pp5 : tp ≤ h 236 4) (pp6 : 48 ≤ h 237 (0 + (h 236 4).toNat)) (pp7 : h 237 (0 + (h 236 4).toNat) ≤ 57) (pp8 : h 236 7 = 0) (xq0 : RefB tB tn h) (k : ∀ (h2 : hp) , GI h2 → FR [(236, 236, some (4, 4)), (236, 236, some (6, 6)), (236, 236, some (7, 7))] h h2 → (h 236 4 ≤ h2 236 4) → (h2 236 4 ≤ h 236 3) → ((h2 236 4 = tk_nx tB tn tp ∧ h2 236 5 = tk_st tB tn tp ∧ TKk tB tn tp (h2 236 6) (h2 236 7) (h2 236 12))) → (tp ≤ tk_nx tB tn tp ∧ tk_nx tB tn tp ≤ tn) → Q (.inl none) (hp_w h2 cr) b c) : wp (md_xa (L, xs)) (d + 1) 215 (146, [(0, .ref 236), (2, vi 0)], [], hp_w h cr, b, c) Q := by
  have F0 : FR [(236, 236, some (4, 4)), (236, 236, some (6, 6)), (236, 236, some (7, 7))] h h := FR.refl
  have tb_1 : h 236 3 = tn := xq0.2.1
  have tb_2 : 0 ≤ tn ∧ tn ≤ 800 := xq0.2.2
  have b1 := gi_b (lo := 0) (hi := 800) g 236 4 rfl
  have b2 := gi_b (lo := 0) (hi := 800) g 236 3 rfl
  have b3 := gi_b (lo := 0) (hi := 800) g 236 5 rfl
  obtain ⟨i4, ei4⟩ : ∃ q : Nat, (0 + h 236 4) = (q : Int) := ⟨(0 + h 236 4).toNat, by omega⟩
  have b5 := gi_b (lo := 0) (hi := 255) g 237 i4 rfl
  have e6 : h 237 (0 + (h 236 4).toNat) = h 237 i4 := by rw [show 0 + (h 236 4).toNat = i4 by omega]
  have b7 := gi_b (lo := 0) (hi := 999) g 236 7 rfl
  have tJ8 : tk_I tk_dg tB 10 48 3 1 tn (h 236 4) ((h 236 4) + 0) (h 236 7) := tk_I0 (by omega) (by omega) (by omega) (show h 236 7 = 0 by omega)
  refine wi_aload_n (i := 0) (x := 236) (nx := 147) (r1 := 0) (r2 := 0) (r3 := 0) rfl rfl ?_
  refine wi_iload_n (i := 2) (e := 0) (nx := 148) (r1 := 0) (r2 := 0) (r3 := 0) rfl rfl ?_
  refine wr_V (k0 := 236) (rest := []) (as := [.ref 236, vi 0]) (nx := 151) (r1 := 216) (r2 := 1) (r3 := 11) rfl rfl rfl (of_decide_eq_true rfl) rfl rfl (by decide) rfl rfl (of_decide_eq_true rfl) (of_decide_eq_true rfl) ?_
  refine wi_aload_n (i := 0) (x := 236) (nx := 1) (r1 := 0) (r2 := 0) (r3 := 0) rfl rfl ?_
  refine wr_gi0 (k0 := 236) (x := h 236 4) (nx := 4) (r1 := 11) (r2 := 4) (r3 := 0) rfl rfl (by decide) rfl ⟨rfl, rfl⟩ rfl rfl ?_
  refine wi_iload_n (i := 1) (e := 0) (nx := 5) (r1 := 0) (r2 := 0) (r3 := 0) rfl rfl ?_
  refine wr_add (nx := 6) (r1 := 0) (r2 := 0) (r3 := 0) rfl (fun e9 (fe9 : e9 = (h 236 4) + 0) => ?_)
  refine wi_aload_n (i := 0) (x := 236) (nx := 7) (r1 := 0) (r2 := 0) (r3 := 0) rfl rfl ?_
  refine wr_gi0 (k0 := 236) (x := h 236 3) (nx := 10) (r1 := 11) (r2 := 3) (r3 := 0) rfl rfl (by decide) rfl ⟨rfl, rfl⟩ rfl rfl ?_
  refine wi_icmp (cd := .ge) (nx := 13) (r1 := 27) (r2 := 0) (r3 := 0) rfl (by omega) (by omega) (fun (q10 : (h 236 3) ≤ e9) => by exfalso; omega) (fun (q10 : ¬ ((h 236 3) ≤ e9)) => ?_)
  refine wi_aload_n (i := 0) (x := 236) (nx := 14) (r1 := 0) (r2 := 0) (r3 := 0) rfl rfl ?_
  refine wr_gr (k0 := 236) (x := 237) (nx := 17) (r1 := 11) (r2 := 1) (r3 := 0) rfl rfl (by decide) rfl ⟨rfl, rfl⟩ rfl ?_
  refine wi_aload_n (i := 0) (x := 236) (nx := 18) (r1 := 0) (r2 := 0) (r3 := 0) rfl rfl ?_
  refine wr_gi0 (k0 := 236) (x := h 236 4) (nx := 21) (r1 := 11) (r2 := 4) (r3 := 0) rfl rfl (by decide) rfl ⟨rfl, rfl⟩ rfl rfl ?_
  refine wi_iload_n (i := 1) (e := 0) (nx := 22) (r1 := 0) (r2 := 0) (r3 := 0) rfl rfl ?_
  refine wr_add (nx := 23) (r1 := 0) (r2 := 0) (r3 := 0) rfl (fun e11 (fe11 : e11 = (h 236 4) + 0) => ?_)
  have ry12 := xq0.1 i4 (by omega)
  refine wr_ia (k0 := 237) (a := e11) (f := i4) (x := h 237 i4) (nx := 24) (r1 := 0) (r2 := 0) (r3 := 0) rfl (by decide) rfl (by omega) (by omega) (by decide) rfl ?_
  refine wi_goto (nx := 27) (r1 := 28) (r2 := 0) (r3 := 0) rfl ?_
  refine wi_ireturn (nx := 29) (r1 := 0) (r2 := 0) (r3 := 0) rfl rfl ?_
  refine wk_i ?_
  refine wi_S (rest := []) (as := [vi (h 237 i4)]) (nx := 154) (r1 := 218) (r2 := 17) (r3 := 0) rfl rfl rfl (of_decide_eq_true rfl) rfl rfl (of_decide_eq_true rfl) (of_decide_eq_true rfl) ?_
  refine wi_iload_n (i := 0) (e := h 237 i4) (nx := 1) (r1 := 0) (r2 := 0) (r3 := 0) rfl rfl ?_
  refine wi_bipush (n := 48) (nx := 3) (r1 := 0) (r2 := 0) (r3 := 0) rfl (by decide) ?_
  refine wi_icmp (cd := .lt) (nx := 6) (r1 := 16) (r2 := 0) (r3 := 0) rfl (by omega) (by omega) (fun (q13 : (h 237 i4) < 48) => by exfalso; omega) (fun (q13 : ¬ ((h 237 i4) < 48)) => ?_)
  refine wi_iload_n (i := 0) (e := h 237 i4) (nx := 7) (r1 := 0) (r2 := 0) (r3 := 0) rfl rfl ?_
  refine wi_bipush (n := 57) (nx := 9) (r1 := 0) (r2 := 0) (r3 := 0) rfl (by decide) ?_
  refine wi_icmp (cd := .gt) (nx := 12) (r1 := 16) (r2 := 0) (r3 := 0) rfl (by omega) (by omega) (fun (q14 : 57 < (h 237 i4)) => by exfalso; omega) (fun (q14 : ¬ (57 < (h 237 i4))) => ?_)
  refine wi_iconst (n := 1) (nx := 13) (r1 := 0) (r2 := 0) (r3 := 0) rfl ?_
  refine wi_goto (nx := 16) (r1 := 17) (r2 := 0) (r3 := 0) rfl ?_
  refine wi_zreturn (nx := 18) (r1 := 0) (r2 := 0) (r3 := 0) rfl rfl (by omega) ?_
  refine wk_i ?_
  refine wi_if (cd := .eq) (nx := 157) (r1 := 188) (r2 := 0) (r3 := 0) rfl (by omega) (fun (q15 : 1 = 0) => by exfalso; omega) (fun (q15 : ¬ (1 = 0)) => ?_)
  refine wi_iload_n (i := 2) (e := 0) (nx := 158) (r1 := 0) (r2 := 0) (r3 := 0) rfl rfl ?_
  refine wi_iconst (n := 3) (nx := 159) (r1 := 0) (r2 := 0) (r3 := 0) rfl ?_
  refine wi_icmp (cd := .ge) (nx := 162) (r1 := 182) (r2 := 0) (r3 := 0) rfl (by omega) (by omega) (fun (q16 : 3 ≤ 0) => by exfalso; omega) (fun (q16 : ¬ (3 ≤ 0)) => ?_)
  refine wi_aload_n (i := 0) (x := 236) (nx := 163) (r1 := 0) (r2 := 0) (r3 := 0) rfl rfl ?_
  refine wi_bipush (n := 10) (nx := 165) (r1 := 0) (r2 := 0) (r3 := 0) rfl (by decide) ?_
  refine wi_aload_n (i := 0) (x := 236) (nx := 166) (r1 := 0) (r2 := 0) (r3 := 0) rfl rfl ?_
  refine wr_gi0 (k0 := 236) (x := h 236 7) (nx := 169) (r1 := 11) (r2 := 7) (r3 := 0) rfl rfl (by decide) rfl ⟨rfl, rfl⟩ rfl rfl ?_
  refine wr_mul (nx := 170) (r1 := 0) (r2 := 0) (r3 := 0) rfl (fun e17 (fe17 : e17 = 10 * (h 236 7)) => ?_)
  refine wi_aload_n (i := 0) (x := 236) (nx := 171) (r1 := 0) (r2 := 0) (r3 := 0) rfl rfl ?_
  refine wi_iload_n (i := 2) (e := 0) (nx := 172) (r1 := 0) (r2 := 0) (r3 := 0) rfl rfl ?_
  refine wr_V (k0 := 236) (rest := [vi e17, .ref 236]) (as := [.ref 236, vi 0]) (nx := 175) (r1 := 216) (r2 := 1) (r3 := 11) rfl rfl rfl (of_decide_eq_true rfl) rfl rfl (by decide) rfl rfl (of_decide_eq_true rfl) (of_decide_eq_true rfl) ?_
  refine wi_aload_n (i := 0) (x := 236) (nx := 1) (r1 := 0) (r2 := 0) (r3 := 0) rfl rfl ?_
  refine wr_gi0 (k0 := 236) (x := h 236 4) (nx := 4) (r1 := 11) (r2 := 4) (r3 := 0) rfl rfl (by decide) rfl ⟨rfl, rfl⟩ rfl rfl ?_
  refine wi_iload_n (i := 1) (e := 0) (nx := 5) (r1 := 0) (r2 := 0) (r3 := 0) rfl rfl ?_
  refine wr_add (nx := 6) (r1 := 0) (r2 := 0) (r3 := 0) rfl (fun e18 (fe18 : e18 = (h 236 4) + 0) => ?_)
  refine wi_aload_n (i := 0) (x := 236) (nx := 7) (r1 := 0) (r2 := 0) (r3 := 0) rfl rfl ?_
  refine wr_gi0 (k0 := 236) (x := h 236 3) (nx := 10) (r1 := 11) (r2 := 3) (r3 := 0) rfl rfl (by decide) rfl ⟨rfl, rfl⟩ rfl rfl ?_
  refine wi_icmp (cd := .ge) (nx := 13) (r1 := 27) (r2 := 0) (r3 := 0) rfl (by omega) (by omega) (fun (q19 : (h 236 3) ≤ e18) => by exfalso; omega) (fun (q19 : ¬ ((h 236 3) ≤ e18)) => ?_)
  refine wi_aload_n (i := 0) (x := 236) (nx := 14) (r1 := 0) (r2 := 0) (r3 := 0) rfl rfl ?_
  refine wr_gr (k0 := 236) (x := 237) (nx := 17) (r1 := 11) (r2 := 1) (r3 := 0) rfl rfl (by decide) rfl ⟨rfl, rfl⟩ rfl ?_
  refine wi_aload_n (i := 0) (x := 236) (nx := 18) (r1 := 0) (r2 := 0) (r3 := 0) rfl rfl ?_
  refine wr_gi0 (k0 := 236) (x := h 236 4) (nx := 21) (r1 := 11) (r2 := 4) (r3 := 0) rfl rfl (by decide) rfl ⟨rfl, rfl⟩ rfl rfl ?_
  refine wi_iload_n (i := 1) (e := 0) (nx := 22) (r1 := 0) (r2 := 0) (r3 := 0) rfl rfl ?_
  refine wr_add (nx := 23) (r1 := 0) (r2 := 0) (r3 := 0) rfl (fun e20 (fe20 : e20 = (h 236 4) + 0) => ?_)
  refine wr_ia (k0 := 237) (a := e20) (f := i4) (x := h 237 i4) (nx := 24) (r1 := 0) (r2 := 0) (r3 := 0) rfl (by decide) rfl (by omega) (by omega) (by decide) rfl ?_
  refine wi_goto (nx := 27) (r1 := 28) (r2 := 0) (r3 := 0) rfl ?_
  refine wi_ireturn (nx := 29) (r1 := 0) (r2 := 0) (r3 := 0) rfl rfl ?_
  refine wk_i ?_
  refine wr_add (nx := 176) (r1 := 0) (r2 := 0) (r3 := 0) rfl (fun e21 (fe21 : e21 = e17 + (h 237 i4)) => ?_)
  refine wi_bipush (n := 48) (nx := 178) (r1 := 0) (r2 := 0) (r3 := 0) rfl (by decide) ?_
  refine wr_sub (nx := 179) (r1 := 0) (r2 := 0) (r3 := 0) rfl (fun e22 (fe22 : e22 = e21 - 48) => ?_)
  refine wr_pf0 (k0 := 236) (x := e22) (bl := 0) (bh := 999) (nx := 182) (r1 := 11) (r2 := 7) (r3 := 0) rfl (by decide) rfl ⟨rfl, rfl⟩ rfl rfl g rfl (by omega) (fun h23 g23 w23 u23 => ?_)
  have F24 := F0.then rfl u23
  refine wr_iincL (i := 2) (n := 1) (v := 0) (1) ([(2, vi 1), (0, .ref 236)]) (nx := 185) (r1 := 0) (r2 := 0) (r3 := 0) rfl rfl (by decide) rfl ?_
  refine wi_goto (nx := 188) (r1 := 146) (r2 := 0) (r3 := 0) rfl ?_
  refine wp.lo (lo := [(0, .ref 236), (2, vi 1)]) ⟨rfl, rfl, trivial⟩ rfl ?_
  have e26 : h23 236 4 = h 236 4 := (u23 236 4 rfl)
  have e27 : h23 236 3 = h 236 3 := (u23 236 3 rfl)
  have e28 : h23 236 5 = h 236 5 := (u23 236 5 rfl)
  have e29 : h23 237 (0 + (h23 236 4).toNat) = h 237 i4 := by rw [show 0 + (h23 236 4).toNat = i4 by omega]; exact (u23 237 i4 (fn_a (by omega) fn_0))
  have e30 : h23 236 7 = e22 := w23
  have rb31 := RefB.fr u23 rfl xq0
  have tJ32 : tk_I tk_dg tB 10 48 3 1 tn (h23 236 4) ((h23 236 4) + 1) (h23 236 7) := by rw [show h23 236 4 = (h 236 4) by omega]; exact tk_Is 100 2 (by decide) (by decide) (by decide) (by decide) tJ8 (by omega) (by omega) (show (h 236 4) + 0 = (i4 : Int) by omega) (rfl : tB i4 = tB i4) (tk_dg_t (by omega)) (by omega) (fun v0 v1 => by omega)
  refine ct_215_p146_236_L2_1 hcr  g23   (show (h23 236 4) + 1 ≤ (h23 236 3) by omega) (show tk_st tB tn tp = (h23 236 4) by omega) (show (h23 236 5) = (h23 236 4) by omega) (show 0 ≤ tp by omega) (show tp ≤ tn by omega) (show tp ≤ (h23 236 4) by omega) (show 48 ≤ (h23 237 (0 + (h23 236 4).toNat)) by omega) (show (h23 237 (0 + (h23 236 4).toNat)) ≤ 57 by omega) (show (h23 236 7) ≤ 9 by omega) rb31 tJ32 (fun h25 g25 u25 (p25_0 : (h23 236 4) ≤ (h25 236 4)) (p25_1 : (h25 236 4) ≤ (h23 236 3)) (p25_2 : ((h25 236 4) = tk_nx tB tn tp ∧ (h25 236 5) = tk_st tB tn tp ∧ TKk tB tn tp ((h25 236 6)) ((h25 236 7)) ((h25 236 12)))) (p25_3 : tp ≤ tk_nx tB tn tp ∧ tk_nx tB tn tp ≤ tn) => ?_)
  have F33 := F24.then (by decide +kernel) u25
  have b34 := gi_b (lo := 0) (hi := 800) g25 236 4 rfl
  have e35 : h25 236 5 = h 236 5 := ((u25 236 5 rfl).trans (u23 236 5 rfl))
  have b36 := gi_b (lo := 0) (hi := 4) g25 236 6 rfl
  have b37 := gi_b (lo := 0) (hi := 999) g25 236 7 rfl
  have b38 := gi_b (lo := -9223372036854775808) (hi := 9223372036854775807) g 236 12 rfl
  have e39 : h25 236 12 = h 236 12 := ((u25 236 12 rfl).trans (u23 236 12 rfl))
  have tkk40 := p25_2.2.2
  exact k h25 g25 F33 (show (h 236 4) ≤ (h25 236 4) by omega) (show (h25 236 4) ≤ (h 236 3) by omega) (show ((h25 236 4) = tk_nx tB tn tp ∧ (h25 236 5) = tk_st tB tn tp ∧ TKk tB tn tp ((h25 236 6)) ((h25 236 7)) ((h25 236 12))) by first | assumption | exact ⟨by omega, by omega, TKk.mv (by assumption) (by omega) (by omega) (by omega)⟩) (show tp ≤ tk_nx tB tn tp ∧ tk_nx tB tn tp ≤ tn by omega)
-- method 215: Model.goOn()V
set_option maxRecDepth 100000 in
set_option maxHeartbeats 100000000 in
theorem ct_215_p76_236_L2_0 {L : Nat} {xs : Nat → Int32} {d b c : Nat} {h : hp} {cr : Nat → Nat → Option Nat} {Q : hp_Q} (hcr : CR cr)  {tB : Nat → Int} {tn tp : Int} (g : GI h)   (pp0 : h 236 4 + 1 ≤ h 236 3) (pp1 : tk_st tB tn tp = h 236 4) (pp2 : h 236 5 = h 236 4) (pp3 : 0 ≤ tp) (pp4 : tp ≤ tn) (pp5 : tp ≤ h 236 4) (pp6 : 97 ≤ h 237 (0 + (h 236 4).toNat)) (pp7 : h 237 (0 + (h 236 4).toNat) ≤ 122) (pp8 : h 236 12 = 0) (xq0 : RefB tB tn h) (k : ∀ (h2 : hp) , GI h2 → FR [(236, 236, some (4, 4)), (236, 236, some (6, 6)), (236, 236, some (12, 12))] h h2 → (h 236 4 ≤ h2 236 4) → (h2 236 4 ≤ h 236 3) → ((h2 236 4 = tk_nx tB tn tp ∧ h2 236 5 = tk_st tB tn tp ∧ TKk tB tn tp (h2 236 6) (h2 236 7) (h2 236 12))) → (tp ≤ tk_nx tB tn tp ∧ tk_nx tB tn tp ≤ tn) → Q (.inl none) (hp_w h2 cr) b c) : wp (md_xa (L, xs)) (d + 1) 215 (76, [(0, .ref 236), (2, vi 0)], [], hp_w h cr, b, c) Q := by
  have F0 : FR [(236, 236, some (4, 4)), (236, 236, some (6, 6)), (236, 236, some (12, 12))] h h := FR.refl
  have tb_1 : h 236 3 = tn := xq0.2.1
  have tb_2 : 0 ≤ tn ∧ tn ≤ 800 := xq0.2.2
  have b1 := gi_b (lo := 0) (hi := 800) g 236 4 rfl
  have b2 := gi_b (lo := 0) (hi := 800) g 236 3 rfl
  have b3 := gi_b (lo := 0) (hi := 800) g 236 5 rfl
  obtain ⟨i4, ei4⟩ : ∃ q : Nat, (0 + h 236 4) = (q : Int) := ⟨(0 + h 236 4).toNat, by omega⟩
  have b5 := gi_b (lo := 0) (hi := 255) g 237 i4 rfl
  have e6 : h 237 (0 + (h 236 4).toNat) = h 237 i4 := by rw [show 0 + (h 236 4).toNat = i4 by omega]
  have b7 := gi_b (lo := -9223372036854775808) (hi := 9223372036854775807) g 236 12 rfl
  refine wl_1 (fun x8 h9 => GI h9 ∧ FR [(236, 236, some (4, 4)), (236, 236, some (6, 6)), (236, 236, some (12, 12))] h h9 ∧ FR [(236, 236, some (12, 12))] h h9 ∧ ((0 ≤ x8 ∧ x8 ≤ 800) ∧ (x8 + (h9 236 4) ≤ (h9 236 3)) ∧ ((h9 236 4) = (h 236 4)) ∧ (0 ≤ x8)) ∧ tk_I tk_lt tB 32 96 8 1 tn (h 236 4) ((h 236 4) + x8) (h9 236 12)) (fun x8 h9 => ((h9 236 3) - (h9 236 4) - x8).toNat) (fun x8 h9 => (76, [(0, .ref 236), (2, vi x8)], [], hp_w h9 cr, b, c)) ?_ 0 h ⟨g, F0, FR.refl, (show (0 ≤ 0 ∧ 0 ≤ 800) ∧ (0 + (h 236 4) ≤ (h 236 3)) ∧ ((h 236 4) = (h 236 4)) ∧ (0 ≤ 0) by omega), (tk_I0 (by omega) (by omega) (by omega) (show h 236 12 = 0 by omega))⟩
  intro x8 h9 ⟨g9, F10, u9, f9, X9_0⟩ I9
  have e11 : h9 236 3 = h 236 3 := (u9 236 3 rfl)
  have e12 : h9 236 4 = h 236 4 := (u9 236 4 rfl)
  refine wi_aload_n (i := 0) (x := 236) (nx := 77) (r1 := 0) (r2 := 0) (r3 := 0) rfl rfl ?_
  refine wi_iload_n (i := 2) (e := x8) (nx := 78) (r1 := 0) (r2 := 0) (r3 := 0) rfl rfl ?_
  refine wr_V (k0 := 236) (rest := []) (as := [.ref 236, vi x8]) (nx := 81) (r1 := 216) (r2 := 1) (r3 := 11) rfl rfl rfl (of_decide_eq_true rfl) rfl rfl (by decide) rfl rfl (of_decide_eq_true rfl) (of_decide_eq_true rfl) ?_
  refine wi_aload_n (i := 0) (x := 236) (nx := 1) (r1 := 0) (r2 := 0) (r3 := 0) rfl rfl ?_
  refine wr_gi0 (k0 := 236) (x := h 236 4) (nx := 4) (r1 := 11) (r2 := 4) (r3 := 0) rfl rfl (by decide) rfl ⟨rfl, rfl⟩ rfl (u9 236 4 rfl) ?_
  refine wi_iload_n (i := 1) (e := x8) (nx := 5) (r1 := 0) (r2 := 0) (r3 := 0) rfl rfl ?_
  refine wr_add (nx := 6) (r1 := 0) (r2 := 0) (r3 := 0) rfl (fun e13 (fe13 : e13 = (h 236 4) + x8) => ?_)
  refine wi_aload_n (i := 0) (x := 236) (nx := 7) (r1 := 0) (r2 := 0) (r3 := 0) rfl rfl ?_
  refine wr_gi0 (k0 := 236) (x := h 236 3) (nx := 10) (r1 := 11) (r2 := 3) (r3 := 0) rfl rfl (by decide) rfl ⟨rfl, rfl⟩ rfl (u9 236 3 rfl) ?_
  refine wi_icmp (cd := .ge) (nx := 13) (r1 := 27) (r2 := 0) (r3 := 0) rfl (by omega) (by omega) (fun (q14 : (h 236 3) ≤ e13) => ?_) (fun (q14 : ¬ ((h 236 3) ≤ e13)) => ?_)
  ·
    refine wi_iconst (n := (-1)) (nx := 28) (r1 := 0) (r2 := 0) (r3 := 0) rfl ?_
    refine wi_ireturn (nx := 29) (r1 := 0) (r2 := 0) (r3 := 0) rfl rfl ?_
    refine wk_i ?_
    refine wi_S (rest := []) (as := [vi (-1)]) (nx := 84) (r1 := 217) (r2 := 17) (r3 := 0) rfl rfl rfl (of_decide_eq_true rfl) rfl rfl (of_decide_eq_true rfl) (of_decide_eq_true rfl) ?_
    refine wi_iload_n (i := 0) (e := -1) (nx := 1) (r1 := 0) (r2 := 0) (r3 := 0) rfl rfl ?_
    refine wi_bipush (n := 97) (nx := 3) (r1 := 0) (r2 := 0) (r3 := 0) rfl (by decide) ?_
    refine wi_icmp (cd := .lt) (nx := 6) (r1 := 16) (r2 := 0) (r3 := 0) rfl (by omega) (by omega) (fun (q15 : (-1) < 97) => ?_) (fun (q15 : ¬ ((-1) < 97)) => by exfalso; omega)
    refine wi_iconst (n := 0) (nx := 17) (r1 := 0) (r2 := 0) (r3 := 0) rfl ?_
    refine wi_zreturn (nx := 18) (r1 := 0) (r2 := 0) (r3 := 0) rfl rfl (by omega) ?_
    refine wk_i ?_
    refine wi_if (cd := .eq) (nx := 87) (r1 := 121) (r2 := 0) (r3 := 0) rfl (by omega) (fun (q16 : 0 = 0) => ?_) (fun (q16 : ¬ (0 = 0)) => by exfalso; omega)
    have tI17 : tk_le tB tn (h 236 4) = (h 236 4) + x8 ∧ ((h 236 4) + x8 - (h 236 4) ≤ 8 → tk_w5 tB tn (h 236 4) 0 = h9 236 12) := tk_Ie X9_0 (Or.inl (by omega))
    have tA18 := tk_atW pp1 (by omega) (show (h 236 4) = (((h 236 4)).toNat : Int) by omega) rfl (show _ ≤ tB ((h 236 4)).toNat ∧ tB ((h 236 4)).toNat ≤ _ by have yz := xq0.1 ((h 236 4)).toNat (by omega); rw [show ((h 236 4)).toNat = 0 + ((h 236 4)).toNat by omega] at yz ⊢; omega)
    have tN19 := @tk_nx_b tB tn tp (by omega) (by omega)
    refine wi_aload_n (i := 0) (x := 236) (nx := 122) (r1 := 0) (r2 := 0) (r3 := 0) rfl rfl ?_
    refine wi_iload_n (i := 2) (e := x8) (nx := 123) (r1 := 0) (r2 := 0) (r3 := 0) rfl rfl ?_
    refine wi_bipush (n := 8) (nx := 125) (r1 := 0) (r2 := 0) (r3 := 0) rfl (by decide) ?_
    refine wi_icmp (cd := .le) (nx := 128) (r1 := 132) (r2 := 0) (r3 := 0) rfl (by omega) (by omega) (fun (q20 : x8 ≤ 8) => ?_) (fun (q20 : ¬ (x8 ≤ 8)) => ?_)
    ·
      refine wi_iconst (n := 1) (nx := 133) (r1 := 0) (r2 := 0) (r3 := 0) rfl ?_
      refine wr_pf0 (k0 := 236) (x := 1) (bl := 0) (bh := 4) (nx := 136) (r1 := 11) (r2 := 6) (r3 := 0) rfl (by decide) rfl ⟨rfl, rfl⟩ rfl rfl g9 rfl (by omega) (fun h21 g21 w21 u21 => ?_)
      have F22 := F10.then rfl u21
      refine wi_goto (nx := 139) (r1 := 239) (r2 := 0) (r3 := 0) rfl ?_
      refine wi_aload_n (i := 0) (x := 236) (nx := 240) (r1 := 0) (r2 := 0) (r3 := 0) rfl rfl ?_
      refine wi_dup (nx := 241) (r1 := 0) (r2 := 0) (r3 := 0) rfl rfl ?_
      refine wr_gi0 (k0 := 236) (x := h 236 4) (nx := 244) (r1 := 11) (r2 := 4) (r3 := 0) rfl rfl (by decide) rfl ⟨rfl, rfl⟩ rfl ((u21 236 4 rfl).trans (u9 236 4 rfl)) ?_
      refine wi_iload_n (i := 2) (e := x8) (nx := 245) (r1 := 0) (r2 := 0) (r3 := 0) rfl rfl ?_
      refine wr_add (nx := 246) (r1 := 0) (r2 := 0) (r3 := 0) rfl (fun e23 (fe23 : e23 = (h 236 4) + x8) => ?_)
      refine wr_pf0 (k0 := 236) (x := e23) (bl := 0) (bh := 800) (nx := 249) (r1 := 11) (r2 := 4) (r3 := 0) rfl (by decide) rfl ⟨rfl, rfl⟩ rfl rfl g21 rfl (by omega) (fun h24 g24 w24 u24 => ?_)
      have F25 := F22.then rfl u24
      refine wi_return (nx := 250) (r1 := 0) (r2 := 0) (r3 := 0) rfl rfl ?_
      have e26 : h24 236 4 = e23 := w24
      have e27 : h24 236 5 = h 236 5 := ((u24 236 5 rfl).trans ((u21 236 5 rfl).trans (u9 236 5 rfl)))
      have e28 : h24 236 6 = 1 := ((u24 236 6 rfl).trans w21)
      have b29 := gi_b (lo := 0) (hi := 999) g 236 7 rfl
      have e30 : h24 236 7 = h 236 7 := ((u24 236 7 rfl).trans ((u21 236 7 rfl).trans (u9 236 7 rfl)))
      have b31 := gi_b (lo := -9223372036854775808) (hi := 9223372036854775807) g9 236 12 rfl
      have e32 : h24 236 12 = h9 236 12 := ((u24 236 12 rfl).trans (u21 236 12 rfl))
      exact k h24 g24 F25 (show (h 236 4) ≤ (h24 236 4) by omega) (show (h24 236 4) ≤ (h 236 3) by omega) (show ((h24 236 4) = tk_nx tB tn tp ∧ (h24 236 5) = tk_st tB tn tp ∧ TKk tB tn tp ((h24 236 6)) ((h24 236 7)) ((h24 236 12))) by first | assumption | exact ⟨by omega, by omega, TKk.i1 (by omega) (by omega) (by omega)⟩ | exact ⟨by omega, by omega, TKk.mv (by assumption) (by omega) (by omega) (by omega)⟩) (show tp ≤ tk_nx tB tn tp ∧ tk_nx tB tn tp ≤ tn by omega)
    ·
      refine wi_iconst (n := 4) (nx := 129) (r1 := 0) (r2 := 0) (r3 := 0) rfl ?_
      refine wi_goto (nx := 132) (r1 := 133) (r2 := 0) (r3 := 0) rfl ?_
      refine wr_pf0 (k0 := 236) (x := 4) (bl := 0) (bh := 4) (nx := 136) (r1 := 11) (r2 := 6) (r3 := 0) rfl (by decide) rfl ⟨rfl, rfl⟩ rfl rfl g9 rfl (by omega) (fun h21 g21 w21 u21 => ?_)
      have F22 := F10.then rfl u21
      refine wi_goto (nx := 139) (r1 := 239) (r2 := 0) (r3 := 0) rfl ?_
      refine wi_aload_n (i := 0) (x := 236) (nx := 240) (r1 := 0) (r2 := 0) (r3 := 0) rfl rfl ?_
      refine wi_dup (nx := 241) (r1 := 0) (r2 := 0) (r3 := 0) rfl rfl ?_
      refine wr_gi0 (k0 := 236) (x := h 236 4) (nx := 244) (r1 := 11) (r2 := 4) (r3 := 0) rfl rfl (by decide) rfl ⟨rfl, rfl⟩ rfl ((u21 236 4 rfl).trans (u9 236 4 rfl)) ?_
      refine wi_iload_n (i := 2) (e := x8) (nx := 245) (r1 := 0) (r2 := 0) (r3 := 0) rfl rfl ?_
      refine wr_add (nx := 246) (r1 := 0) (r2 := 0) (r3 := 0) rfl (fun e23 (fe23 : e23 = (h 236 4) + x8) => ?_)
      refine wr_pf0 (k0 := 236) (x := e23) (bl := 0) (bh := 800) (nx := 249) (r1 := 11) (r2 := 4) (r3 := 0) rfl (by decide) rfl ⟨rfl, rfl⟩ rfl rfl g21 rfl (by omega) (fun h24 g24 w24 u24 => ?_)
      have F25 := F22.then rfl u24
      refine wi_return (nx := 250) (r1 := 0) (r2 := 0) (r3 := 0) rfl rfl ?_
      have e26 : h24 236 4 = e23 := w24
      have e27 : h24 236 5 = h 236 5 := ((u24 236 5 rfl).trans ((u21 236 5 rfl).trans (u9 236 5 rfl)))
      have e28 : h24 236 6 = 4 := ((u24 236 6 rfl).trans w21)
      have b29 := gi_b (lo := 0) (hi := 999) g 236 7 rfl
      have e30 : h24 236 7 = h 236 7 := ((u24 236 7 rfl).trans ((u21 236 7 rfl).trans (u9 236 7 rfl)))
      have b31 := gi_b (lo := -9223372036854775808) (hi := 9223372036854775807) g9 236 12 rfl
      have e32 : h24 236 12 = h9 236 12 := ((u24 236 12 rfl).trans (u21 236 12 rfl))
      exact k h24 g24 F25 (show (h 236 4) ≤ (h24 236 4) by omega) (show (h24 236 4) ≤ (h 236 3) by omega) (show ((h24 236 4) = tk_nx tB tn tp ∧ (h24 236 5) = tk_st tB tn tp ∧ TKk tB tn tp ((h24 236 6)) ((h24 236 7)) ((h24 236 12))) by first | assumption | exact ⟨by omega, by omega, TKk.i6 (by omega) (by omega)⟩ | exact ⟨by omega, by omega, TKk.mv (by assumption) (by omega) (by omega) (by omega)⟩) (show tp ≤ tk_nx tB tn tp ∧ tk_nx tB tn tp ≤ tn by omega)
  ·
    refine wi_aload_n (i := 0) (x := 236) (nx := 14) (r1 := 0) (r2 := 0) (r3 := 0) rfl rfl ?_
    refine wr_gr (k0 := 236) (x := 237) (nx := 17) (r1 := 11) (r2 := 1) (r3 := 0) rfl rfl (by decide) rfl ⟨rfl, rfl⟩ rfl ?_
    refine wi_aload_n (i := 0) (x := 236) (nx := 18) (r1 := 0) (r2 := 0) (r3 := 0) rfl rfl ?_
    refine wr_gi0 (k0 := 236) (x := h 236 4) (nx := 21) (r1 := 11) (r2 := 4) (r3 := 0) rfl rfl (by decide) rfl ⟨rfl, rfl⟩ rfl (u9 236 4 rfl) ?_
    refine wi_iload_n (i := 1) (e := x8) (nx := 22) (r1 := 0) (r2 := 0) (r3 := 0) rfl rfl ?_
    refine wr_add (nx := 23) (r1 := 0) (r2 := 0) (r3 := 0) rfl (fun e15 (fe15 : e15 = (h 236 4) + x8) => ?_)
    obtain ⟨i16, ei16⟩ : ∃ q : Nat, e15 = (q : Int) := ⟨(e15).toNat, by omega⟩
    have b17 := gi_b (lo := 0) (hi := 255) g 237 i16 rfl
    have ry18 := xq0.1 i16 (by omega)
    refine wr_ia (k0 := 237) (a := e15) (f := i16) (x := h 237 i16) (nx := 24) (r1 := 0) (r2 := 0) (r3 := 0) rfl (by decide) rfl (by omega) (by omega) (by decide) (u9 237 i16 (fn_a (by decide) fn_0)) ?_
    refine wi_goto (nx := 27) (r1 := 28) (r2 := 0) (r3 := 0) rfl ?_
    refine wi_ireturn (nx := 29) (r1 := 0) (r2 := 0) (r3 := 0) rfl rfl ?_
    refine wk_i ?_
    refine wi_S (rest := []) (as := [vi (h 237 i16)]) (nx := 84) (r1 := 217) (r2 := 17) (r3 := 0) rfl rfl rfl (of_decide_eq_true rfl) rfl rfl (of_decide_eq_true rfl) (of_decide_eq_true rfl) ?_
    refine wi_iload_n (i := 0) (e := h 237 i16) (nx := 1) (r1 := 0) (r2 := 0) (r3 := 0) rfl rfl ?_
    refine wi_bipush (n := 97) (nx := 3) (r1 := 0) (r2 := 0) (r3 := 0) rfl (by decide) ?_
    refine wi_icmp (cd := .lt) (nx := 6) (r1 := 16) (r2 := 0) (r3 := 0) rfl (by omega) (by omega) (fun (q19 : (h 237 i16) < 97) => ?_) (fun (q19 : ¬ ((h 237 i16) < 97)) => ?_)
    ·
      refine wi_iconst (n := 0) (nx := 17) (r1 := 0) (r2 := 0) (r3 := 0) rfl ?_
      refine wi_zreturn (nx := 18) (r1 := 0) (r2 := 0) (r3 := 0) rfl rfl (by omega) ?_
      refine wk_i ?_
      refine wi_if (cd := .eq) (nx := 87) (r1 := 121) (r2 := 0) (r3 := 0) rfl (by omega) (fun (q20 : 0 = 0) => ?_) (fun (q20 : ¬ (0 = 0)) => by exfalso; omega)
      have tI21 : tk_le tB tn (h 236 4) = (h 236 4) + x8 ∧ ((h 236 4) + x8 - (h 236 4) ≤ 8 → tk_w5 tB tn (h 236 4) 0 = h9 236 12) := tk_Ie2 X9_0 (show (h 236 4) + x8 = (i16 : Int) by omega) (rfl : tB i16 = tB i16) (tk_lt_f (by omega))
      have tA22 := tk_atW pp1 (by omega) (show (h 236 4) = (((h 236 4)).toNat : Int) by omega) rfl (show _ ≤ tB ((h 236 4)).toNat ∧ tB ((h 236 4)).toNat ≤ _ by have yz := xq0.1 ((h 236 4)).toNat (by omega); rw [show ((h 236 4)).toNat = 0 + ((h 236 4)).toNat by omega] at yz ⊢; omega)
      have tN23 := @tk_nx_b tB tn tp (by omega) (by omega)
      refine wi_aload_n (i := 0) (x := 236) (nx := 122) (r1 := 0) (r2 := 0) (r3 := 0) rfl rfl ?_
      refine wi_iload_n (i := 2) (e := x8) (nx := 123) (r1 := 0) (r2 := 0) (r3 := 0) rfl rfl ?_
      refine wi_bipush (n := 8) (nx := 125) (r1 := 0) (r2 := 0) (r3 := 0) rfl (by decide) ?_
      refine wi_icmp (cd := .le) (nx := 128) (r1 := 132) (r2 := 0) (r3 := 0) rfl (by omega) (by omega) (fun (q24 : x8 ≤ 8) => ?_) (fun (q24 : ¬ (x8 ≤ 8)) => ?_)
      ·
        refine wi_iconst (n := 1) (nx := 133) (r1 := 0) (r2 := 0) (r3 := 0) rfl ?_
        refine wr_pf0 (k0 := 236) (x := 1) (bl := 0) (bh := 4) (nx := 136) (r1 := 11) (r2 := 6) (r3 := 0) rfl (by decide) rfl ⟨rfl, rfl⟩ rfl rfl g9 rfl (by omega) (fun h25 g25 w25 u25 => ?_)
        have F26 := F10.then rfl u25
        refine wi_goto (nx := 139) (r1 := 239) (r2 := 0) (r3 := 0) rfl ?_
        refine wi_aload_n (i := 0) (x := 236) (nx := 240) (r1 := 0) (r2 := 0) (r3 := 0) rfl rfl ?_
        refine wi_dup (nx := 241) (r1 := 0) (r2 := 0) (r3 := 0) rfl rfl ?_
        refine wr_gi0 (k0 := 236) (x := h 236 4) (nx := 244) (r1 := 11) (r2 := 4) (r3 := 0) rfl rfl (by decide) rfl ⟨rfl, rfl⟩ rfl ((u25 236 4 rfl).trans (u9 236 4 rfl)) ?_
        refine wi_iload_n (i := 2) (e := x8) (nx := 245) (r1 := 0) (r2 := 0) (r3 := 0) rfl rfl ?_
        refine wr_add (nx := 246) (r1 := 0) (r2 := 0) (r3 := 0) rfl (fun e27 (fe27 : e27 = (h 236 4) + x8) => ?_)
        refine wr_pf0 (k0 := 236) (x := e27) (bl := 0) (bh := 800) (nx := 249) (r1 := 11) (r2 := 4) (r3 := 0) rfl (by decide) rfl ⟨rfl, rfl⟩ rfl rfl g25 rfl (by omega) (fun h28 g28 w28 u28 => ?_)
        have F29 := F26.then rfl u28
        refine wi_return (nx := 250) (r1 := 0) (r2 := 0) (r3 := 0) rfl rfl ?_
        have e30 : h28 236 4 = e27 := w28
        have e31 : h28 236 5 = h 236 5 := ((u28 236 5 rfl).trans ((u25 236 5 rfl).trans (u9 236 5 rfl)))
        have e32 : h28 236 6 = 1 := ((u28 236 6 rfl).trans w25)
        have b33 := gi_b (lo := 0) (hi := 999) g 236 7 rfl
        have e34 : h28 236 7 = h 236 7 := ((u28 236 7 rfl).trans ((u25 236 7 rfl).trans (u9 236 7 rfl)))
        have b35 := gi_b (lo := -9223372036854775808) (hi := 9223372036854775807) g9 236 12 rfl
        have e36 : h28 236 12 = h9 236 12 := ((u28 236 12 rfl).trans (u25 236 12 rfl))
        exact k h28 g28 F29 (show (h 236 4) ≤ (h28 236 4) by omega) (show (h28 236 4) ≤ (h 236 3) by omega) (show ((h28 236 4) = tk_nx tB tn tp ∧ (h28 236 5) = tk_st tB tn tp ∧ TKk tB tn tp ((h28 236 6)) ((h28 236 7)) ((h28 236 12))) by first | assumption | exact ⟨by omega, by omega, TKk.i1 (by omega) (by omega) (by omega)⟩ | exact ⟨by omega, by omega, TKk.mv (by assumption) (by omega) (by omega) (by omega)⟩) (show tp ≤ tk_nx tB tn tp ∧ tk_nx tB tn tp ≤ tn by omega)
      ·
        refine wi_iconst (n := 4) (nx := 129) (r1 := 0) (r2 := 0) (r3 := 0) rfl ?_
        refine wi_goto (nx := 132) (r1 := 133) (r2 := 0) (r3 := 0) rfl ?_
        refine wr_pf0 (k0 := 236) (x := 4) (bl := 0) (bh := 4) (nx := 136) (r1 := 11) (r2 := 6) (r3 := 0) rfl (by decide) rfl ⟨rfl, rfl⟩ rfl rfl g9 rfl (by omega) (fun h25 g25 w25 u25 => ?_)
        have F26 := F10.then rfl u25
        refine wi_goto (nx := 139) (r1 := 239) (r2 := 0) (r3 := 0) rfl ?_
        refine wi_aload_n (i := 0) (x := 236) (nx := 240) (r1 := 0) (r2 := 0) (r3 := 0) rfl rfl ?_
        refine wi_dup (nx := 241) (r1 := 0) (r2 := 0) (r3 := 0) rfl rfl ?_
        refine wr_gi0 (k0 := 236) (x := h 236 4) (nx := 244) (r1 := 11) (r2 := 4) (r3 := 0) rfl rfl (by decide) rfl ⟨rfl, rfl⟩ rfl ((u25 236 4 rfl).trans (u9 236 4 rfl)) ?_
        refine wi_iload_n (i := 2) (e := x8) (nx := 245) (r1 := 0) (r2 := 0) (r3 := 0) rfl rfl ?_
        refine wr_add (nx := 246) (r1 := 0) (r2 := 0) (r3 := 0) rfl (fun e27 (fe27 : e27 = (h 236 4) + x8) => ?_)
        refine wr_pf0 (k0 := 236) (x := e27) (bl := 0) (bh := 800) (nx := 249) (r1 := 11) (r2 := 4) (r3 := 0) rfl (by decide) rfl ⟨rfl, rfl⟩ rfl rfl g25 rfl (by omega) (fun h28 g28 w28 u28 => ?_)
        have F29 := F26.then rfl u28
        refine wi_return (nx := 250) (r1 := 0) (r2 := 0) (r3 := 0) rfl rfl ?_
        have e30 : h28 236 4 = e27 := w28
        have e31 : h28 236 5 = h 236 5 := ((u28 236 5 rfl).trans ((u25 236 5 rfl).trans (u9 236 5 rfl)))
        have e32 : h28 236 6 = 4 := ((u28 236 6 rfl).trans w25)
        have b33 := gi_b (lo := 0) (hi := 999) g 236 7 rfl
        have e34 : h28 236 7 = h 236 7 := ((u28 236 7 rfl).trans ((u25 236 7 rfl).trans (u9 236 7 rfl)))
        have b35 := gi_b (lo := -9223372036854775808) (hi := 9223372036854775807) g9 236 12 rfl
        have e36 : h28 236 12 = h9 236 12 := ((u28 236 12 rfl).trans (u25 236 12 rfl))
        exact k h28 g28 F29 (show (h 236 4) ≤ (h28 236 4) by omega) (show (h28 236 4) ≤ (h 236 3) by omega) (show ((h28 236 4) = tk_nx tB tn tp ∧ (h28 236 5) = tk_st tB tn tp ∧ TKk tB tn tp ((h28 236 6)) ((h28 236 7)) ((h28 236 12))) by first | assumption | exact ⟨by omega, by omega, TKk.i6 (by omega) (by omega)⟩ | exact ⟨by omega, by omega, TKk.mv (by assumption) (by omega) (by omega) (by omega)⟩) (show tp ≤ tk_nx tB tn tp ∧ tk_nx tB tn tp ≤ tn by omega)
    ·
      refine wi_iload_n (i := 0) (e := h 237 i16) (nx := 7) (r1 := 0) (r2 := 0) (r3 := 0) rfl rfl ?_
      refine wi_bipush (n := 122) (nx := 9) (r1 := 0) (r2 := 0) (r3 := 0) rfl (by decide) ?_
      refine wi_icmp (cd := .gt) (nx := 12) (r1 := 16) (r2 := 0) (r3 := 0) rfl (by omega) (by omega) (fun (q20 : 122 < (h 237 i16)) => ?_) (fun (q20 : ¬ (122 < (h 237 i16))) => ?_)
      ·
        refine wi_iconst (n := 0) (nx := 17) (r1 := 0) (r2 := 0) (r3 := 0) rfl ?_
        refine wi_zreturn (nx := 18) (r1 := 0) (r2 := 0) (r3 := 0) rfl rfl (by omega) ?_
        refine wk_i ?_
        refine wi_if (cd := .eq) (nx := 87) (r1 := 121) (r2 := 0) (r3 := 0) rfl (by omega) (fun (q21 : 0 = 0) => ?_) (fun (q21 : ¬ (0 = 0)) => by exfalso; omega)
        have tI22 : tk_le tB tn (h 236 4) = (h 236 4) + x8 ∧ ((h 236 4) + x8 - (h 236 4) ≤ 8 → tk_w5 tB tn (h 236 4) 0 = h9 236 12) := tk_Ie2 X9_0 (show (h 236 4) + x8 = (i16 : Int) by omega) (rfl : tB i16 = tB i16) (tk_lt_f (by omega))
        have tA23 := tk_atW pp1 (by omega) (show (h 236 4) = (((h 236 4)).toNat : Int) by omega) rfl (show _ ≤ tB ((h 236 4)).toNat ∧ tB ((h 236 4)).toNat ≤ _ by have yz := xq0.1 ((h 236 4)).toNat (by omega); rw [show ((h 236 4)).toNat = 0 + ((h 236 4)).toNat by omega] at yz ⊢; omega)
        have tN24 := @tk_nx_b tB tn tp (by omega) (by omega)
        refine wi_aload_n (i := 0) (x := 236) (nx := 122) (r1 := 0) (r2 := 0) (r3 := 0) rfl rfl ?_
        refine wi_iload_n (i := 2) (e := x8) (nx := 123) (r1 := 0) (r2 := 0) (r3 := 0) rfl rfl ?_
        refine wi_bipush (n := 8) (nx := 125) (r1 := 0) (r2 := 0) (r3 := 0) rfl (by decide) ?_
        refine wi_icmp (cd := .le) (nx := 128) (r1 := 132) (r2 := 0) (r3 := 0) rfl (by omega) (by omega) (fun (q25 : x8 ≤ 8) => ?_) (fun (q25 : ¬ (x8 ≤ 8)) => ?_)
        ·
          refine wi_iconst (n := 1) (nx := 133) (r1 := 0) (r2 := 0) (r3 := 0) rfl ?_
          refine wr_pf0 (k0 := 236) (x := 1) (bl := 0) (bh := 4) (nx := 136) (r1 := 11) (r2 := 6) (r3 := 0) rfl (by decide) rfl ⟨rfl, rfl⟩ rfl rfl g9 rfl (by omega) (fun h26 g26 w26 u26 => ?_)
          have F27 := F10.then rfl u26
          refine wi_goto (nx := 139) (r1 := 239) (r2 := 0) (r3 := 0) rfl ?_
          refine wi_aload_n (i := 0) (x := 236) (nx := 240) (r1 := 0) (r2 := 0) (r3 := 0) rfl rfl ?_
          refine wi_dup (nx := 241) (r1 := 0) (r2 := 0) (r3 := 0) rfl rfl ?_
          refine wr_gi0 (k0 := 236) (x := h 236 4) (nx := 244) (r1 := 11) (r2 := 4) (r3 := 0) rfl rfl (by decide) rfl ⟨rfl, rfl⟩ rfl ((u26 236 4 rfl).trans (u9 236 4 rfl)) ?_
          refine wi_iload_n (i := 2) (e := x8) (nx := 245) (r1 := 0) (r2 := 0) (r3 := 0) rfl rfl ?_
          refine wr_add (nx := 246) (r1 := 0) (r2 := 0) (r3 := 0) rfl (fun e28 (fe28 : e28 = (h 236 4) + x8) => ?_)
          refine wr_pf0 (k0 := 236) (x := e28) (bl := 0) (bh := 800) (nx := 249) (r1 := 11) (r2 := 4) (r3 := 0) rfl (by decide) rfl ⟨rfl, rfl⟩ rfl rfl g26 rfl (by omega) (fun h29 g29 w29 u29 => ?_)
          have F30 := F27.then rfl u29
          refine wi_return (nx := 250) (r1 := 0) (r2 := 0) (r3 := 0) rfl rfl ?_
          have e31 : h29 236 4 = e28 := w29
          have e32 : h29 236 5 = h 236 5 := ((u29 236 5 rfl).trans ((u26 236 5 rfl).trans (u9 236 5 rfl)))
          have e33 : h29 236 6 = 1 := ((u29 236 6 rfl).trans w26)
          have b34 := gi_b (lo := 0) (hi := 999) g 236 7 rfl
          have e35 : h29 236 7 = h 236 7 := ((u29 236 7 rfl).trans ((u26 236 7 rfl).trans (u9 236 7 rfl)))
          have b36 := gi_b (lo := -9223372036854775808) (hi := 9223372036854775807) g9 236 12 rfl
          have e37 : h29 236 12 = h9 236 12 := ((u29 236 12 rfl).trans (u26 236 12 rfl))
          exact k h29 g29 F30 (show (h 236 4) ≤ (h29 236 4) by omega) (show (h29 236 4) ≤ (h 236 3) by omega) (show ((h29 236 4) = tk_nx tB tn tp ∧ (h29 236 5) = tk_st tB tn tp ∧ TKk tB tn tp ((h29 236 6)) ((h29 236 7)) ((h29 236 12))) by first | assumption | exact ⟨by omega, by omega, TKk.i1 (by omega) (by omega) (by omega)⟩ | exact ⟨by omega, by omega, TKk.mv (by assumption) (by omega) (by omega) (by omega)⟩) (show tp ≤ tk_nx tB tn tp ∧ tk_nx tB tn tp ≤ tn by omega)
        ·
          refine wi_iconst (n := 4) (nx := 129) (r1 := 0) (r2 := 0) (r3 := 0) rfl ?_
          refine wi_goto (nx := 132) (r1 := 133) (r2 := 0) (r3 := 0) rfl ?_
          refine wr_pf0 (k0 := 236) (x := 4) (bl := 0) (bh := 4) (nx := 136) (r1 := 11) (r2 := 6) (r3 := 0) rfl (by decide) rfl ⟨rfl, rfl⟩ rfl rfl g9 rfl (by omega) (fun h26 g26 w26 u26 => ?_)
          have F27 := F10.then rfl u26
          refine wi_goto (nx := 139) (r1 := 239) (r2 := 0) (r3 := 0) rfl ?_
          refine wi_aload_n (i := 0) (x := 236) (nx := 240) (r1 := 0) (r2 := 0) (r3 := 0) rfl rfl ?_
          refine wi_dup (nx := 241) (r1 := 0) (r2 := 0) (r3 := 0) rfl rfl ?_
          refine wr_gi0 (k0 := 236) (x := h 236 4) (nx := 244) (r1 := 11) (r2 := 4) (r3 := 0) rfl rfl (by decide) rfl ⟨rfl, rfl⟩ rfl ((u26 236 4 rfl).trans (u9 236 4 rfl)) ?_
          refine wi_iload_n (i := 2) (e := x8) (nx := 245) (r1 := 0) (r2 := 0) (r3 := 0) rfl rfl ?_
          refine wr_add (nx := 246) (r1 := 0) (r2 := 0) (r3 := 0) rfl (fun e28 (fe28 : e28 = (h 236 4) + x8) => ?_)
          refine wr_pf0 (k0 := 236) (x := e28) (bl := 0) (bh := 800) (nx := 249) (r1 := 11) (r2 := 4) (r3 := 0) rfl (by decide) rfl ⟨rfl, rfl⟩ rfl rfl g26 rfl (by omega) (fun h29 g29 w29 u29 => ?_)
          have F30 := F27.then rfl u29
          refine wi_return (nx := 250) (r1 := 0) (r2 := 0) (r3 := 0) rfl rfl ?_
          have e31 : h29 236 4 = e28 := w29
          have e32 : h29 236 5 = h 236 5 := ((u29 236 5 rfl).trans ((u26 236 5 rfl).trans (u9 236 5 rfl)))
          have e33 : h29 236 6 = 4 := ((u29 236 6 rfl).trans w26)
          have b34 := gi_b (lo := 0) (hi := 999) g 236 7 rfl
          have e35 : h29 236 7 = h 236 7 := ((u29 236 7 rfl).trans ((u26 236 7 rfl).trans (u9 236 7 rfl)))
          have b36 := gi_b (lo := -9223372036854775808) (hi := 9223372036854775807) g9 236 12 rfl
          have e37 : h29 236 12 = h9 236 12 := ((u29 236 12 rfl).trans (u26 236 12 rfl))
          exact k h29 g29 F30 (show (h 236 4) ≤ (h29 236 4) by omega) (show (h29 236 4) ≤ (h 236 3) by omega) (show ((h29 236 4) = tk_nx tB tn tp ∧ (h29 236 5) = tk_st tB tn tp ∧ TKk tB tn tp ((h29 236 6)) ((h29 236 7)) ((h29 236 12))) by first | assumption | exact ⟨by omega, by omega, TKk.i6 (by omega) (by omega)⟩ | exact ⟨by omega, by omega, TKk.mv (by assumption) (by omega) (by omega) (by omega)⟩) (show tp ≤ tk_nx tB tn tp ∧ tk_nx tB tn tp ≤ tn by omega)
      ·
        refine wi_iconst (n := 1) (nx := 13) (r1 := 0) (r2 := 0) (r3 := 0) rfl ?_
        refine wi_goto (nx := 16) (r1 := 17) (r2 := 0) (r3 := 0) rfl ?_
        refine wi_zreturn (nx := 18) (r1 := 0) (r2 := 0) (r3 := 0) rfl rfl (by omega) ?_
        refine wk_i ?_
        refine wi_if (cd := .eq) (nx := 87) (r1 := 121) (r2 := 0) (r3 := 0) rfl (by omega) (fun (q21 : 1 = 0) => by exfalso; omega) (fun (q21 : ¬ (1 = 0)) => ?_)
        refine wi_iload_n (i := 2) (e := x8) (nx := 88) (r1 := 0) (r2 := 0) (r3 := 0) rfl rfl ?_
        refine wi_bipush (n := 8) (nx := 90) (r1 := 0) (r2 := 0) (r3 := 0) rfl (by decide) ?_
        refine wi_icmp (cd := .ge) (nx := 93) (r1 := 115) (r2 := 0) (r3 := 0) rfl (by omega) (by omega) (fun (q22 : 8 ≤ x8) => ?_) (fun (q22 : ¬ (8 ≤ x8)) => ?_)
        ·
          refine wr_iinc (i := 2) (n := 1) (v := x8) (fun e23 => [(2, vi e23), (0, .ref 236)]) (nx := 118) (r1 := 0) (r2 := 0) (r3 := 0) rfl rfl (fun _ => rfl) (fun e23 (fe23 : e23 = x8 + 1) => ?_)
          refine wi_goto (nx := 121) (r1 := 76) (r2 := 0) (r3 := 0) rfl ?_
          refine wp.lo (lo := [(0, .ref 236), (2, vi e23)]) ⟨rfl, rfl, trivial⟩ rfl ?_
          have b24 := gi_b (lo := -9223372036854775808) (hi := 9223372036854775807) g9 236 12 rfl
          exact I9 e23 h9 ⟨g9, F10, u9, (show (0 ≤ e23 ∧ e23 ≤ 800) ∧ (e23 + (h9 236 4) ≤ (h9 236 3)) ∧ ((h9 236 4) = (h 236 4)) ∧ (0 ≤ e23) by omega), (tk_Iz X9_0 (by omega) (by omega) (show (h 236 4) + x8 = (i16 : Int) by omega) (rfl : tB i16 = tB i16) (tk_lt_t (by omega)) (by omega))⟩ (show ((h9 236 3) - (h9 236 4) - e23).toNat < ((h9 236 3) - (h9 236 4) - x8).toNat by omega)
        ·
          refine wi_aload_n (i := 0) (x := 236) (nx := 94) (r1 := 0) (r2 := 0) (r3 := 0) rfl rfl ?_
          refine wi_aload_n (i := 0) (x := 236) (nx := 95) (r1 := 0) (r2 := 0) (r3 := 0) rfl rfl ?_
          have b23 := gi_b (lo := -9223372036854775808) (hi := 9223372036854775807) g9 236 12 rfl
          refine wr_gi1 (k0 := 236) (x := h9 236 12) (nx := 98) (r1 := 11) (r2 := 12) (r3 := 0) rfl rfl (by decide) rfl ⟨rfl, rfl⟩ rfl rfl ?_
          refine wi_iconst (n := 5) (nx := 99) (r1 := 0) (r2 := 0) (r3 := 0) rfl ?_
          refine wr_lshl5 (nx := 100) (r1 := 0) (r2 := 0) (r3 := 0) rfl (fun e24 (fe24 : -9223372036854775808 ≤ e24 ∧ e24 ≤ 9223372036854775807) (ve24 : 0 ≤ (h9 236 12) → (h9 236 12) < 36028797018963968 → e24 = (h9 236 12) * 32) => ?_)
          refine wi_aload_n (i := 0) (x := 236) (nx := 101) (r1 := 0) (r2 := 0) (r3 := 0) rfl rfl ?_
          refine wi_iload_n (i := 2) (e := x8) (nx := 102) (r1 := 0) (r2 := 0) (r3 := 0) rfl rfl ?_
          refine wr_V (k0 := 236) (rest := [vl e24, .ref 236]) (as := [.ref 236, vi x8]) (nx := 105) (r1 := 216) (r2 := 1) (r3 := 11) rfl rfl rfl (of_decide_eq_true rfl) rfl rfl (by decide) rfl rfl (of_decide_eq_true rfl) (of_decide_eq_true rfl) ?_
          refine wi_aload_n (i := 0) (x := 236) (nx := 1) (r1 := 0) (r2 := 0) (r3 := 0) rfl rfl ?_
          refine wr_gi0 (k0 := 236) (x := h 236 4) (nx := 4) (r1 := 11) (r2 := 4) (r3 := 0) rfl rfl (by decide) rfl ⟨rfl, rfl⟩ rfl (u9 236 4 rfl) ?_
          refine wi_iload_n (i := 1) (e := x8) (nx := 5) (r1 := 0) (r2 := 0) (r3 := 0) rfl rfl ?_
          refine wr_add (nx := 6) (r1 := 0) (r2 := 0) (r3 := 0) rfl (fun e25 (fe25 : e25 = (h 236 4) + x8) => ?_)
          refine wi_aload_n (i := 0) (x := 236) (nx := 7) (r1 := 0) (r2 := 0) (r3 := 0) rfl rfl ?_
          refine wr_gi0 (k0 := 236) (x := h 236 3) (nx := 10) (r1 := 11) (r2 := 3) (r3 := 0) rfl rfl (by decide) rfl ⟨rfl, rfl⟩ rfl (u9 236 3 rfl) ?_
          refine wi_icmp (cd := .ge) (nx := 13) (r1 := 27) (r2 := 0) (r3 := 0) rfl (by omega) (by omega) (fun (q26 : (h 236 3) ≤ e25) => by exfalso; omega) (fun (q26 : ¬ ((h 236 3) ≤ e25)) => ?_)
          refine wi_aload_n (i := 0) (x := 236) (nx := 14) (r1 := 0) (r2 := 0) (r3 := 0) rfl rfl ?_
          refine wr_gr (k0 := 236) (x := 237) (nx := 17) (r1 := 11) (r2 := 1) (r3 := 0) rfl rfl (by decide) rfl ⟨rfl, rfl⟩ rfl ?_
          refine wi_aload_n (i := 0) (x := 236) (nx := 18) (r1 := 0) (r2 := 0) (r3 := 0) rfl rfl ?_
          refine wr_gi0 (k0 := 236) (x := h 236 4) (nx := 21) (r1 := 11) (r2 := 4) (r3 := 0) rfl rfl (by decide) rfl ⟨rfl, rfl⟩ rfl (u9 236 4 rfl) ?_
          refine wi_iload_n (i := 1) (e := x8) (nx := 22) (r1 := 0) (r2 := 0) (r3 := 0) rfl rfl ?_
          refine wr_add (nx := 23) (r1 := 0) (r2 := 0) (r3 := 0) rfl (fun e27 (fe27 : e27 = (h 236 4) + x8) => ?_)
          refine wr_ia (k0 := 237) (a := e27) (f := i16) (x := h 237 i16) (nx := 24) (r1 := 0) (r2 := 0) (r3 := 0) rfl (by decide) rfl (by omega) (by omega) (by decide) (u9 237 i16 (fn_a (by decide) fn_0)) ?_
          refine wi_goto (nx := 27) (r1 := 28) (r2 := 0) (r3 := 0) rfl ?_
          refine wi_ireturn (nx := 29) (r1 := 0) (r2 := 0) (r3 := 0) rfl rfl ?_
          refine wk_i ?_
          refine wi_bipush (n := 97) (nx := 107) (r1 := 0) (r2 := 0) (r3 := 0) rfl (by decide) ?_
          refine wr_sub (nx := 108) (r1 := 0) (r2 := 0) (r3 := 0) rfl (fun e28 (fe28 : e28 = (h 237 i16) - 97) => ?_)
          refine wi_iconst (n := 1) (nx := 109) (r1 := 0) (r2 := 0) (r3 := 0) rfl ?_
          refine wr_add (nx := 110) (r1 := 0) (r2 := 0) (r3 := 0) rfl (fun e29 (fe29 : e29 = e28 + 1) => ?_)
          refine wi_i2l (nx := 111) (r1 := 0) (r2 := 0) (r3 := 0) rfl (by omega) ?_
          refine wr_lorS 32 5 (by decide) (nx := 112) (r1 := 0) (r2 := 0) (r3 := 0) rfl (fun e30 (fe30 : -9223372036854775808 ≤ e30 ∧ e30 ≤ 9223372036854775807) ve30 => ?_)
          refine wr_pf1 (k0 := 236) (x := e30) (bl := -9223372036854775808) (bh := 9223372036854775807) (nx := 115) (r1 := 11) (r2 := 12) (r3 := 1) rfl (by decide) rfl ⟨rfl, rfl⟩ rfl rfl g9 rfl (by omega) (fun h31 g31 w31 u31 => ?_)
          have F32 := F10.then rfl u31
          have F33 := u9.then rfl u31
          refine wr_iinc (i := 2) (n := 1) (v := x8) (fun e34 => [(2, vi e34), (0, .ref 236)]) (nx := 118) (r1 := 0) (r2 := 0) (r3 := 0) rfl rfl (fun _ => rfl) (fun e34 (fe34 : e34 = x8 + 1) => ?_)
          refine wi_goto (nx := 121) (r1 := 76) (r2 := 0) (r3 := 0) rfl ?_
          have e35 : h31 236 4 = h 236 4 := ((u31 236 4 rfl).trans (u9 236 4 rfl))
          have e36 : h31 236 3 = h 236 3 := ((u31 236 3 rfl).trans (u9 236 3 rfl))
          refine wp.lo (lo := [(0, .ref 236), (2, vi e34)]) ⟨rfl, rfl, trivial⟩ rfl ?_
          have e37 : h31 236 12 = e30 := w31
          exact I9 e34 h31 ⟨g31, F32, F33, (show (0 ≤ e34 ∧ e34 ≤ 800) ∧ (e34 + (h31 236 4) ≤ (h31 236 3)) ∧ ((h31 236 4) = (h 236 4)) ∧ (0 ≤ e34) by omega), (tk_Is 34359738368 7 (by decide) (by decide) (by decide) (by decide) X9_0 (by omega) (by omega) (show (h 236 4) + x8 = (i16 : Int) by omega) (rfl : tB i16 = tB i16) (tk_lt_t (by omega)) (by omega) (fun v0 v1 => by have l1 := ve24 v0 (by omega); have l2 := ve30 (h9 236 12) l1 v0 (by omega) (by omega); omega))⟩ (show ((h31 236 3) - (h31 236 4) - e34).toNat < ((h9 236 3) - (h9 236 4) - x8).toNat by omega)
-- method 215: Model.goOn()V
set_option maxRecDepth 100000 in
set_option maxHeartbeats 100000000 in
theorem ct_215_p33_236 {L : Nat} {xs : Nat → Int32} {d b c : Nat} {h : hp} {cr : Nat → Nat → Option Nat} {Q : hp_Q} (hcr : CR cr)  {tB : Nat → Int} {tn tp : Int} (g : GI h)   (pp0 : h 236 4 ≤ h 236 3) (pp1 : tk_st tB tn tp = h 236 4) (pp2 : 0 ≤ tp) (pp3 : tp ≤ tn) (pp4 : tp ≤ h 236 4) (xq0 : RefB tB tn h) (k : ∀ (h2 : hp) , GI h2 → FR [(236, 236, some (4, 4)), (236, 236, some (5, 5)), (236, 236, some (6, 6)), (236, 236, some (7, 7)), (236, 236, some (12, 12))] h h2 → (h 236 4 ≤ h2 236 4) → (h2 236 4 ≤ h 236 3) → ((h2 236 4 = tk_nx tB tn tp ∧ h2 236 5 = tk_st tB tn tp ∧ TKk tB tn tp (h2 236 6) (h2 236 7) (h2 236 12))) → (tp ≤ tk_nx tB tn tp ∧ tk_nx tB tn tp ≤ tn) → Q (.inl none) (hp_w h2 cr) b c) : wp (md_xa (L, xs)) (d + 1) 215 (33, [(0, .ref 236)], [], hp_w h cr, b, c) Q := by
  have F0 : FR [(236, 236, some (4, 4)), (236, 236, some (5, 5)), (236, 236, some (6, 6)), (236, 236, some (7, 7)), (236, 236, some (12, 12))] h h := FR.refl
  have tb_1 : h 236 3 = tn := xq0.2.1
  have tb_2 : 0 ≤ tn ∧ tn ≤ 800 := xq0.2.2
  have b1 := gi_b (lo := 0) (hi := 800) g 236 4 rfl
  have b2 := gi_b (lo := 0) (hi := 800) g 236 3 rfl
  refine wi_aload_n (i := 0) (x := 236) (nx := 34) (r1 := 0) (r2 := 0) (r3 := 0) rfl rfl ?_
  refine wi_aload_n (i := 0) (x := 236) (nx := 35) (r1 := 0) (r2 := 0) (r3 := 0) rfl rfl ?_
  refine wr_gi0 (k0 := 236) (x := h 236 4) (nx := 38) (r1 := 11) (r2 := 4) (r3 := 0) rfl rfl (by decide) rfl ⟨rfl, rfl⟩ rfl rfl ?_
  refine wr_pf0 (k0 := 236) (x := h 236 4) (bl := 0) (bh := 800) (nx := 41) (r1 := 11) (r2 := 5) (r3 := 0) rfl (by decide) rfl ⟨rfl, rfl⟩ rfl rfl g rfl (by omega) (fun h3 g3 w3 u3 => ?_)
  have F4 := F0.then rfl u3
  refine wi_aload_n (i := 0) (x := 236) (nx := 42) (r1 := 0) (r2 := 0) (r3 := 0) rfl rfl ?_
  refine wi_lconst (n := 0) (e := 0) (nx := 43) (r1 := 0) (r2 := 0) (r3 := 0) rfl (by decide) ?_
  refine wr_pf1 (k0 := 236) (x := 0) (bl := -9223372036854775808) (bh := 9223372036854775807) (nx := 46) (r1 := 11) (r2 := 12) (r3 := 1) rfl (by decide) rfl ⟨rfl, rfl⟩ rfl rfl g3 rfl (by omega) (fun h5 g5 w5 u5 => ?_)
  have F6 := F4.then rfl u5
  refine wi_aload_n (i := 0) (x := 236) (nx := 47) (r1 := 0) (r2 := 0) (r3 := 0) rfl rfl ?_
  refine wi_iconst (n := 0) (nx := 48) (r1 := 0) (r2 := 0) (r3 := 0) rfl ?_
  refine wr_pf0 (k0 := 236) (x := 0) (bl := 0) (bh := 999) (nx := 51) (r1 := 11) (r2 := 7) (r3 := 0) rfl (by decide) rfl ⟨rfl, rfl⟩ rfl rfl g5 rfl (by omega) (fun h7 g7 w7 u7 => ?_)
  have F8 := F6.then rfl u7
  refine wi_aload_n (i := 0) (x := 236) (nx := 52) (r1 := 0) (r2 := 0) (r3 := 0) rfl rfl ?_
  refine wi_iconst (n := 0) (nx := 53) (r1 := 0) (r2 := 0) (r3 := 0) rfl ?_
  refine wr_V (k0 := 236) (rest := []) (as := [.ref 236, vi 0]) (nx := 56) (r1 := 216) (r2 := 1) (r3 := 11) rfl rfl rfl (of_decide_eq_true rfl) rfl rfl (by decide) rfl rfl (of_decide_eq_true rfl) (of_decide_eq_true rfl) ?_
  refine wi_aload_n (i := 0) (x := 236) (nx := 1) (r1 := 0) (r2 := 0) (r3 := 0) rfl rfl ?_
  refine wr_gi0 (k0 := 236) (x := h 236 4) (nx := 4) (r1 := 11) (r2 := 4) (r3 := 0) rfl rfl (by decide) rfl ⟨rfl, rfl⟩ rfl ((u7 236 4 rfl).trans ((u5 236 4 rfl).trans (u3 236 4 rfl))) ?_
  refine wi_iload_n (i := 1) (e := 0) (nx := 5) (r1 := 0) (r2 := 0) (r3 := 0) rfl rfl ?_
  refine wr_add (nx := 6) (r1 := 0) (r2 := 0) (r3 := 0) rfl (fun e9 (fe9 : e9 = (h 236 4) + 0) => ?_)
  refine wi_aload_n (i := 0) (x := 236) (nx := 7) (r1 := 0) (r2 := 0) (r3 := 0) rfl rfl ?_
  refine wr_gi0 (k0 := 236) (x := h 236 3) (nx := 10) (r1 := 11) (r2 := 3) (r3 := 0) rfl rfl (by decide) rfl ⟨rfl, rfl⟩ rfl ((u7 236 3 rfl).trans ((u5 236 3 rfl).trans (u3 236 3 rfl))) ?_
  refine wi_icmp (cd := .ge) (nx := 13) (r1 := 27) (r2 := 0) (r3 := 0) rfl (by omega) (by omega) (fun (q10 : (h 236 3) ≤ e9) => ?_) (fun (q10 : ¬ ((h 236 3) ≤ e9)) => ?_)
  ·
    refine wi_iconst (n := (-1)) (nx := 28) (r1 := 0) (r2 := 0) (r3 := 0) rfl ?_
    refine wi_ireturn (nx := 29) (r1 := 0) (r2 := 0) (r3 := 0) rfl rfl ?_
    refine wk_i ?_
    refine wi_istore_n (i := 1) (e := -1) (lo2 := [(1, vi (-1)), (0, .ref 236)]) (nx := 57) (r1 := 0) (r2 := 0) (r3 := 0) rfl rfl ?_
    refine wi_iconst (n := 0) (nx := 58) (r1 := 0) (r2 := 0) (r3 := 0) rfl ?_
    refine wi_istore_n (i := 2) (e := 0) (lo2 := [(2, vi 0), (1, vi (-1)), (0, .ref 236)]) (nx := 59) (r1 := 0) (r2 := 0) (r3 := 0) rfl rfl ?_
    refine wi_iload_n (i := 1) (e := -1) (nx := 60) (r1 := 0) (r2 := 0) (r3 := 0) rfl rfl ?_
    refine wi_if (cd := .ge) (nx := 63) (r1 := 69) (r2 := 0) (r3 := 0) rfl (by omega) (fun (q11 : 0 ≤ (-1)) => by exfalso; omega) (fun (q11 : ¬ (0 ≤ (-1))) => ?_)
    have tA12 := tk_at0 pp1 (by omega)
    have tN13 := @tk_nx_b tB tn tp (by omega) (by omega)
    refine wi_aload_n (i := 0) (x := 236) (nx := 64) (r1 := 0) (r2 := 0) (r3 := 0) rfl rfl ?_
    refine wi_iconst (n := 0) (nx := 65) (r1 := 0) (r2 := 0) (r3 := 0) rfl ?_
    refine wr_pf0 (k0 := 236) (x := 0) (bl := 0) (bh := 4) (nx := 68) (r1 := 11) (r2 := 6) (r3 := 0) rfl (by decide) rfl ⟨rfl, rfl⟩ rfl rfl g7 rfl (by omega) (fun h14 g14 w14 u14 => ?_)
    have F15 := F8.then rfl u14
    refine wi_return (nx := 69) (r1 := 0) (r2 := 0) (r3 := 0) rfl rfl ?_
    have e16 : h14 236 4 = h 236 4 := ((u14 236 4 rfl).trans ((u7 236 4 rfl).trans ((u5 236 4 rfl).trans (u3 236 4 rfl))))
    have e17 : h14 236 5 = h 236 4 := ((u14 236 5 rfl).trans ((u7 236 5 rfl).trans ((u5 236 5 rfl).trans w3)))
    have e18 : h14 236 6 = 0 := w14
    have e19 : h14 236 7 = 0 := ((u14 236 7 rfl).trans w7)
    have e20 : h14 236 12 = 0 := ((u14 236 12 rfl).trans ((u7 236 12 rfl).trans w5))
    exact k h14 g14 F15 (show (h 236 4) ≤ (h14 236 4) by omega) (show (h14 236 4) ≤ (h 236 3) by omega) (show ((h14 236 4) = tk_nx tB tn tp ∧ (h14 236 5) = tk_st tB tn tp ∧ TKk tB tn tp ((h14 236 6)) ((h14 236 7)) ((h14 236 12))) by first | assumption | exact ⟨by omega, by omega, TKk.i0 (by omega) (by omega)⟩ | exact ⟨by omega, by omega, TKk.mv (by assumption) (by omega) (by omega) (by omega)⟩) (show tp ≤ tk_nx tB tn tp ∧ tk_nx tB tn tp ≤ tn by omega)
  ·
    refine wi_aload_n (i := 0) (x := 236) (nx := 14) (r1 := 0) (r2 := 0) (r3 := 0) rfl rfl ?_
    refine wr_gr (k0 := 236) (x := 237) (nx := 17) (r1 := 11) (r2 := 1) (r3 := 0) rfl rfl (by decide) rfl ⟨rfl, rfl⟩ rfl ?_
    refine wi_aload_n (i := 0) (x := 236) (nx := 18) (r1 := 0) (r2 := 0) (r3 := 0) rfl rfl ?_
    refine wr_gi0 (k0 := 236) (x := h 236 4) (nx := 21) (r1 := 11) (r2 := 4) (r3 := 0) rfl rfl (by decide) rfl ⟨rfl, rfl⟩ rfl ((u7 236 4 rfl).trans ((u5 236 4 rfl).trans (u3 236 4 rfl))) ?_
    refine wi_iload_n (i := 1) (e := 0) (nx := 22) (r1 := 0) (r2 := 0) (r3 := 0) rfl rfl ?_
    refine wr_add (nx := 23) (r1 := 0) (r2 := 0) (r3 := 0) rfl (fun e11 (fe11 : e11 = (h 236 4) + 0) => ?_)
    obtain ⟨i12, ei12⟩ : ∃ q : Nat, e11 = (q : Int) := ⟨(e11).toNat, by omega⟩
    have b13 := gi_b (lo := 0) (hi := 255) g 237 i12 rfl
    have ry14 := xq0.1 i12 (by omega)
    refine wr_ia (k0 := 237) (a := e11) (f := i12) (x := h 237 i12) (nx := 24) (r1 := 0) (r2 := 0) (r3 := 0) rfl (by decide) rfl (by omega) (by omega) (by decide) ((u7 237 i12 (fn_a (by omega) fn_0)).trans ((u5 237 i12 (fn_a (by omega) fn_0)).trans (u3 237 i12 (fn_a (by omega) fn_0)))) ?_
    refine wi_goto (nx := 27) (r1 := 28) (r2 := 0) (r3 := 0) rfl ?_
    refine wi_ireturn (nx := 29) (r1 := 0) (r2 := 0) (r3 := 0) rfl rfl ?_
    refine wk_i ?_
    refine wi_istore_n (i := 1) (e := h 237 i12) (lo2 := [(1, vi (h 237 i12)), (0, .ref 236)]) (nx := 57) (r1 := 0) (r2 := 0) (r3 := 0) rfl rfl ?_
    refine wi_iconst (n := 0) (nx := 58) (r1 := 0) (r2 := 0) (r3 := 0) rfl ?_
    refine wi_istore_n (i := 2) (e := 0) (lo2 := [(2, vi 0), (1, vi (h 237 i12)), (0, .ref 236)]) (nx := 59) (r1 := 0) (r2 := 0) (r3 := 0) rfl rfl ?_
    refine wi_iload_n (i := 1) (e := h 237 i12) (nx := 60) (r1 := 0) (r2 := 0) (r3 := 0) rfl rfl ?_
    refine wi_if (cd := .ge) (nx := 63) (r1 := 69) (r2 := 0) (r3 := 0) rfl (by omega) (fun (q15 : 0 ≤ (h 237 i12)) => ?_) (fun (q15 : ¬ (0 ≤ (h 237 i12))) => by exfalso; omega)
    refine wi_iload_n (i := 1) (e := h 237 i12) (nx := 70) (r1 := 0) (r2 := 0) (r3 := 0) rfl rfl ?_
    refine wi_S (rest := []) (as := [vi (h 237 i12)]) (nx := 73) (r1 := 217) (r2 := 17) (r3 := 0) rfl rfl rfl (of_decide_eq_true rfl) rfl rfl (of_decide_eq_true rfl) (of_decide_eq_true rfl) ?_
    refine wi_iload_n (i := 0) (e := h 237 i12) (nx := 1) (r1 := 0) (r2 := 0) (r3 := 0) rfl rfl ?_
    refine wi_bipush (n := 97) (nx := 3) (r1 := 0) (r2 := 0) (r3 := 0) rfl (by decide) ?_
    refine wi_icmp (cd := .lt) (nx := 6) (r1 := 16) (r2 := 0) (r3 := 0) rfl (by omega) (by omega) (fun (q16 : (h 237 i12) < 97) => ?_) (fun (q16 : ¬ ((h 237 i12) < 97)) => ?_)
    ·
      refine wi_iconst (n := 0) (nx := 17) (r1 := 0) (r2 := 0) (r3 := 0) rfl ?_
      refine wi_zreturn (nx := 18) (r1 := 0) (r2 := 0) (r3 := 0) rfl rfl (by omega) ?_
      refine wk_i ?_
      refine wi_if (cd := .eq) (nx := 76) (r1 := 139) (r2 := 0) (r3 := 0) rfl (by omega) (fun (q17 : 0 = 0) => ?_) (fun (q17 : ¬ (0 = 0)) => by exfalso; omega)
      refine wi_iload_n (i := 1) (e := h 237 i12) (nx := 140) (r1 := 0) (r2 := 0) (r3 := 0) rfl rfl ?_
      refine wi_S (rest := []) (as := [vi (h 237 i12)]) (nx := 143) (r1 := 218) (r2 := 17) (r3 := 0) rfl rfl rfl (of_decide_eq_true rfl) rfl rfl (of_decide_eq_true rfl) (of_decide_eq_true rfl) ?_
      refine wi_iload_n (i := 0) (e := h 237 i12) (nx := 1) (r1 := 0) (r2 := 0) (r3 := 0) rfl rfl ?_
      refine wi_bipush (n := 48) (nx := 3) (r1 := 0) (r2 := 0) (r3 := 0) rfl (by decide) ?_
      refine wi_icmp (cd := .lt) (nx := 6) (r1 := 16) (r2 := 0) (r3 := 0) rfl (by omega) (by omega) (fun (q18 : (h 237 i12) < 48) => ?_) (fun (q18 : ¬ ((h 237 i12) < 48)) => ?_)
      ·
        refine wi_iconst (n := 0) (nx := 17) (r1 := 0) (r2 := 0) (r3 := 0) rfl ?_
        refine wi_zreturn (nx := 18) (r1 := 0) (r2 := 0) (r3 := 0) rfl rfl (by omega) ?_
        refine wk_i ?_
        refine wi_if (cd := .eq) (nx := 146) (r1 := 205) (r2 := 0) (r3 := 0) rfl (by omega) (fun (q19 : 0 = 0) => ?_) (fun (q19 : ¬ (0 = 0)) => by exfalso; omega)
        have tA20 := tk_atM pp1 (by omega) (show (h 236 4) = (i12 : Int) by omega) (rfl : tB i12 = tB i12) (by omega) (by omega)
        have tN21 := @tk_nx_b tB tn tp (by omega) (by omega)
        refine wi_aload_n (i := 0) (x := 236) (nx := 206) (r1 := 0) (r2 := 0) (r3 := 0) rfl rfl ?_
        refine wi_iload_n (i := 1) (e := h 237 i12) (nx := 207) (r1 := 0) (r2 := 0) (r3 := 0) rfl rfl ?_
        refine wi_bipush (n := 59) (nx := 209) (r1 := 0) (r2 := 0) (r3 := 0) rfl (by decide) ?_
        refine wi_icmp (cd := .eq) (nx := 212) (r1 := 224) (r2 := 0) (r3 := 0) rfl (by omega) (by omega) (fun (q22 : (h 237 i12) = 59) => by exfalso; omega) (fun (q22 : ¬ ((h 237 i12) = 59)) => ?_)
        refine wi_iload_n (i := 1) (e := h 237 i12) (nx := 213) (r1 := 0) (r2 := 0) (r3 := 0) rfl rfl ?_
        refine wi_bipush (n := 40) (nx := 215) (r1 := 0) (r2 := 0) (r3 := 0) rfl (by decide) ?_
        refine wi_icmp (cd := .eq) (nx := 218) (r1 := 224) (r2 := 0) (r3 := 0) rfl (by omega) (by omega) (fun (q23 : (h 237 i12) = 40) => ?_) (fun (q23 : ¬ ((h 237 i12) = 40)) => ?_)
        ·
          refine wi_iconst (n := 3) (nx := 225) (r1 := 0) (r2 := 0) (r3 := 0) rfl ?_
          refine wi_goto (nx := 228) (r1 := 229) (r2 := 0) (r3 := 0) rfl ?_
          refine wr_pf0 (k0 := 236) (x := 3) (bl := 0) (bh := 4) (nx := 232) (r1 := 11) (r2 := 6) (r3 := 0) rfl (by decide) rfl ⟨rfl, rfl⟩ rfl rfl g7 rfl (by omega) (fun h24 g24 w24 u24 => ?_)
          have F25 := F8.then rfl u24
          refine wi_aload_n (i := 0) (x := 236) (nx := 233) (r1 := 0) (r2 := 0) (r3 := 0) rfl rfl ?_
          refine wi_iload_n (i := 1) (e := h 237 i12) (nx := 234) (r1 := 0) (r2 := 0) (r3 := 0) rfl rfl ?_
          refine wr_pf0 (k0 := 236) (x := h 237 i12) (bl := 0) (bh := 999) (nx := 237) (r1 := 11) (r2 := 7) (r3 := 0) rfl (by decide) rfl ⟨rfl, rfl⟩ rfl rfl g24 rfl (by omega) (fun h26 g26 w26 u26 => ?_)
          have F27 := F25.then rfl u26
          refine wi_iconst (n := 1) (nx := 238) (r1 := 0) (r2 := 0) (r3 := 0) rfl ?_
          refine wi_istore_n (i := 2) (e := 1) (lo2 := [(2, vi 1), (1, vi (h 237 i12)), (0, .ref 236)]) (nx := 239) (r1 := 0) (r2 := 0) (r3 := 0) rfl rfl ?_
          refine wi_aload_n (i := 0) (x := 236) (nx := 240) (r1 := 0) (r2 := 0) (r3 := 0) rfl rfl ?_
          refine wi_dup (nx := 241) (r1 := 0) (r2 := 0) (r3 := 0) rfl rfl ?_
          refine wr_gi0 (k0 := 236) (x := h 236 4) (nx := 244) (r1 := 11) (r2 := 4) (r3 := 0) rfl rfl (by decide) rfl ⟨rfl, rfl⟩ rfl ((u26 236 4 rfl).trans ((u24 236 4 rfl).trans ((u7 236 4 rfl).trans ((u5 236 4 rfl).trans (u3 236 4 rfl))))) ?_
          refine wi_iload_n (i := 2) (e := 1) (nx := 245) (r1 := 0) (r2 := 0) (r3 := 0) rfl rfl ?_
          refine wr_add (nx := 246) (r1 := 0) (r2 := 0) (r3 := 0) rfl (fun e28 (fe28 : e28 = (h 236 4) + 1) => ?_)
          refine wr_pf0 (k0 := 236) (x := e28) (bl := 0) (bh := 800) (nx := 249) (r1 := 11) (r2 := 4) (r3 := 0) rfl (by decide) rfl ⟨rfl, rfl⟩ rfl rfl g26 rfl (by omega) (fun h29 g29 w29 u29 => ?_)
          have F30 := F27.then rfl u29
          refine wi_return (nx := 250) (r1 := 0) (r2 := 0) (r3 := 0) rfl rfl ?_
          have e31 : h29 236 4 = e28 := w29
          have e32 : h29 236 5 = h 236 4 := ((u29 236 5 rfl).trans ((u26 236 5 rfl).trans ((u24 236 5 rfl).trans ((u7 236 5 rfl).trans ((u5 236 5 rfl).trans w3)))))
          have e33 : h29 236 6 = 3 := ((u29 236 6 rfl).trans ((u26 236 6 rfl).trans w24))
          have e34 : h29 236 7 = h 237 i12 := ((u29 236 7 rfl).trans w26)
          have e35 : h29 236 12 = 0 := ((u29 236 12 rfl).trans ((u26 236 12 rfl).trans ((u24 236 12 rfl).trans ((u7 236 12 rfl).trans w5))))
          exact k h29 g29 F30 (show (h 236 4) ≤ (h29 236 4) by omega) (show (h29 236 4) ≤ (h 236 3) by omega) (show ((h29 236 4) = tk_nx tB tn tp ∧ (h29 236 5) = tk_st tB tn tp ∧ TKk tB tn tp ((h29 236 6)) ((h29 236 7)) ((h29 236 12))) by first | assumption | exact ⟨by omega, by omega, TKk.i3 (by omega) (by omega) (by omega)⟩ | exact ⟨by omega, by omega, TKk.i4 (by omega) (by omega) (by omega)⟩ | exact ⟨by omega, by omega, TKk.i5 (by omega) (by omega) (by omega)⟩ | exact ⟨by omega, by omega, TKk.mv (by assumption) (by omega) (by omega) (by omega)⟩) (show tp ≤ tk_nx tB tn tp ∧ tk_nx tB tn tp ≤ tn by omega)
        ·
          refine wi_iload_n (i := 1) (e := h 237 i12) (nx := 219) (r1 := 0) (r2 := 0) (r3 := 0) rfl rfl ?_
          refine wi_bipush (n := 41) (nx := 221) (r1 := 0) (r2 := 0) (r3 := 0) rfl (by decide) ?_
          refine wi_icmp (cd := .ne) (nx := 224) (r1 := 228) (r2 := 0) (r3 := 0) rfl (by omega) (by omega) (fun (q24 : (h 237 i12) ≠ 41) => ?_) (fun (q24 : ¬ ((h 237 i12) ≠ 41)) => ?_)
          ·
            refine wi_iconst (n := 4) (nx := 229) (r1 := 0) (r2 := 0) (r3 := 0) rfl ?_
            refine wr_pf0 (k0 := 236) (x := 4) (bl := 0) (bh := 4) (nx := 232) (r1 := 11) (r2 := 6) (r3 := 0) rfl (by decide) rfl ⟨rfl, rfl⟩ rfl rfl g7 rfl (by omega) (fun h25 g25 w25 u25 => ?_)
            have F26 := F8.then rfl u25
            refine wi_aload_n (i := 0) (x := 236) (nx := 233) (r1 := 0) (r2 := 0) (r3 := 0) rfl rfl ?_
            refine wi_iload_n (i := 1) (e := h 237 i12) (nx := 234) (r1 := 0) (r2 := 0) (r3 := 0) rfl rfl ?_
            refine wr_pf0 (k0 := 236) (x := h 237 i12) (bl := 0) (bh := 999) (nx := 237) (r1 := 11) (r2 := 7) (r3 := 0) rfl (by decide) rfl ⟨rfl, rfl⟩ rfl rfl g25 rfl (by omega) (fun h27 g27 w27 u27 => ?_)
            have F28 := F26.then rfl u27
            refine wi_iconst (n := 1) (nx := 238) (r1 := 0) (r2 := 0) (r3 := 0) rfl ?_
            refine wi_istore_n (i := 2) (e := 1) (lo2 := [(2, vi 1), (1, vi (h 237 i12)), (0, .ref 236)]) (nx := 239) (r1 := 0) (r2 := 0) (r3 := 0) rfl rfl ?_
            refine wi_aload_n (i := 0) (x := 236) (nx := 240) (r1 := 0) (r2 := 0) (r3 := 0) rfl rfl ?_
            refine wi_dup (nx := 241) (r1 := 0) (r2 := 0) (r3 := 0) rfl rfl ?_
            refine wr_gi0 (k0 := 236) (x := h 236 4) (nx := 244) (r1 := 11) (r2 := 4) (r3 := 0) rfl rfl (by decide) rfl ⟨rfl, rfl⟩ rfl ((u27 236 4 rfl).trans ((u25 236 4 rfl).trans ((u7 236 4 rfl).trans ((u5 236 4 rfl).trans (u3 236 4 rfl))))) ?_
            refine wi_iload_n (i := 2) (e := 1) (nx := 245) (r1 := 0) (r2 := 0) (r3 := 0) rfl rfl ?_
            refine wr_add (nx := 246) (r1 := 0) (r2 := 0) (r3 := 0) rfl (fun e29 (fe29 : e29 = (h 236 4) + 1) => ?_)
            refine wr_pf0 (k0 := 236) (x := e29) (bl := 0) (bh := 800) (nx := 249) (r1 := 11) (r2 := 4) (r3 := 0) rfl (by decide) rfl ⟨rfl, rfl⟩ rfl rfl g27 rfl (by omega) (fun h30 g30 w30 u30 => ?_)
            have F31 := F28.then rfl u30
            refine wi_return (nx := 250) (r1 := 0) (r2 := 0) (r3 := 0) rfl rfl ?_
            have e32 : h30 236 4 = e29 := w30
            have e33 : h30 236 5 = h 236 4 := ((u30 236 5 rfl).trans ((u27 236 5 rfl).trans ((u25 236 5 rfl).trans ((u7 236 5 rfl).trans ((u5 236 5 rfl).trans w3)))))
            have e34 : h30 236 6 = 4 := ((u30 236 6 rfl).trans ((u27 236 6 rfl).trans w25))
            have e35 : h30 236 7 = h 237 i12 := ((u30 236 7 rfl).trans w27)
            have e36 : h30 236 12 = 0 := ((u30 236 12 rfl).trans ((u27 236 12 rfl).trans ((u25 236 12 rfl).trans ((u7 236 12 rfl).trans w5))))
            exact k h30 g30 F31 (show (h 236 4) ≤ (h30 236 4) by omega) (show (h30 236 4) ≤ (h 236 3) by omega) (show ((h30 236 4) = tk_nx tB tn tp ∧ (h30 236 5) = tk_st tB tn tp ∧ TKk tB tn tp ((h30 236 6)) ((h30 236 7)) ((h30 236 12))) by first | assumption | exact ⟨by omega, by omega, TKk.i6 (by omega) (by omega)⟩ | exact ⟨by omega, by omega, TKk.mv (by assumption) (by omega) (by omega) (by omega)⟩) (show tp ≤ tk_nx tB tn tp ∧ tk_nx tB tn tp ≤ tn by omega)
          ·
            refine wi_iconst (n := 3) (nx := 225) (r1 := 0) (r2 := 0) (r3 := 0) rfl ?_
            refine wi_goto (nx := 228) (r1 := 229) (r2 := 0) (r3 := 0) rfl ?_
            refine wr_pf0 (k0 := 236) (x := 3) (bl := 0) (bh := 4) (nx := 232) (r1 := 11) (r2 := 6) (r3 := 0) rfl (by decide) rfl ⟨rfl, rfl⟩ rfl rfl g7 rfl (by omega) (fun h25 g25 w25 u25 => ?_)
            have F26 := F8.then rfl u25
            refine wi_aload_n (i := 0) (x := 236) (nx := 233) (r1 := 0) (r2 := 0) (r3 := 0) rfl rfl ?_
            refine wi_iload_n (i := 1) (e := h 237 i12) (nx := 234) (r1 := 0) (r2 := 0) (r3 := 0) rfl rfl ?_
            refine wr_pf0 (k0 := 236) (x := h 237 i12) (bl := 0) (bh := 999) (nx := 237) (r1 := 11) (r2 := 7) (r3 := 0) rfl (by decide) rfl ⟨rfl, rfl⟩ rfl rfl g25 rfl (by omega) (fun h27 g27 w27 u27 => ?_)
            have F28 := F26.then rfl u27
            refine wi_iconst (n := 1) (nx := 238) (r1 := 0) (r2 := 0) (r3 := 0) rfl ?_
            refine wi_istore_n (i := 2) (e := 1) (lo2 := [(2, vi 1), (1, vi (h 237 i12)), (0, .ref 236)]) (nx := 239) (r1 := 0) (r2 := 0) (r3 := 0) rfl rfl ?_
            refine wi_aload_n (i := 0) (x := 236) (nx := 240) (r1 := 0) (r2 := 0) (r3 := 0) rfl rfl ?_
            refine wi_dup (nx := 241) (r1 := 0) (r2 := 0) (r3 := 0) rfl rfl ?_
            refine wr_gi0 (k0 := 236) (x := h 236 4) (nx := 244) (r1 := 11) (r2 := 4) (r3 := 0) rfl rfl (by decide) rfl ⟨rfl, rfl⟩ rfl ((u27 236 4 rfl).trans ((u25 236 4 rfl).trans ((u7 236 4 rfl).trans ((u5 236 4 rfl).trans (u3 236 4 rfl))))) ?_
            refine wi_iload_n (i := 2) (e := 1) (nx := 245) (r1 := 0) (r2 := 0) (r3 := 0) rfl rfl ?_
            refine wr_add (nx := 246) (r1 := 0) (r2 := 0) (r3 := 0) rfl (fun e29 (fe29 : e29 = (h 236 4) + 1) => ?_)
            refine wr_pf0 (k0 := 236) (x := e29) (bl := 0) (bh := 800) (nx := 249) (r1 := 11) (r2 := 4) (r3 := 0) rfl (by decide) rfl ⟨rfl, rfl⟩ rfl rfl g27 rfl (by omega) (fun h30 g30 w30 u30 => ?_)
            have F31 := F28.then rfl u30
            refine wi_return (nx := 250) (r1 := 0) (r2 := 0) (r3 := 0) rfl rfl ?_
            have e32 : h30 236 4 = e29 := w30
            have e33 : h30 236 5 = h 236 4 := ((u30 236 5 rfl).trans ((u27 236 5 rfl).trans ((u25 236 5 rfl).trans ((u7 236 5 rfl).trans ((u5 236 5 rfl).trans w3)))))
            have e34 : h30 236 6 = 3 := ((u30 236 6 rfl).trans ((u27 236 6 rfl).trans w25))
            have e35 : h30 236 7 = h 237 i12 := ((u30 236 7 rfl).trans w27)
            have e36 : h30 236 12 = 0 := ((u30 236 12 rfl).trans ((u27 236 12 rfl).trans ((u25 236 12 rfl).trans ((u7 236 12 rfl).trans w5))))
            exact k h30 g30 F31 (show (h 236 4) ≤ (h30 236 4) by omega) (show (h30 236 4) ≤ (h 236 3) by omega) (show ((h30 236 4) = tk_nx tB tn tp ∧ (h30 236 5) = tk_st tB tn tp ∧ TKk tB tn tp ((h30 236 6)) ((h30 236 7)) ((h30 236 12))) by first | assumption | exact ⟨by omega, by omega, TKk.i3 (by omega) (by omega) (by omega)⟩ | exact ⟨by omega, by omega, TKk.i4 (by omega) (by omega) (by omega)⟩ | exact ⟨by omega, by omega, TKk.i5 (by omega) (by omega) (by omega)⟩ | exact ⟨by omega, by omega, TKk.mv (by assumption) (by omega) (by omega) (by omega)⟩) (show tp ≤ tk_nx tB tn tp ∧ tk_nx tB tn tp ≤ tn by omega)
      ·
        refine wi_iload_n (i := 0) (e := h 237 i12) (nx := 7) (r1 := 0) (r2 := 0) (r3 := 0) rfl rfl ?_
        refine wi_bipush (n := 57) (nx := 9) (r1 := 0) (r2 := 0) (r3 := 0) rfl (by decide) ?_
        refine wi_icmp (cd := .gt) (nx := 12) (r1 := 16) (r2 := 0) (r3 := 0) rfl (by omega) (by omega) (fun (q19 : 57 < (h 237 i12)) => ?_) (fun (q19 : ¬ (57 < (h 237 i12))) => ?_)
        ·
          refine wi_iconst (n := 0) (nx := 17) (r1 := 0) (r2 := 0) (r3 := 0) rfl ?_
          refine wi_zreturn (nx := 18) (r1 := 0) (r2 := 0) (r3 := 0) rfl rfl (by omega) ?_
          refine wk_i ?_
          refine wi_if (cd := .eq) (nx := 146) (r1 := 205) (r2 := 0) (r3 := 0) rfl (by omega) (fun (q20 : 0 = 0) => ?_) (fun (q20 : ¬ (0 = 0)) => by exfalso; omega)
          have tA21 := tk_atM pp1 (by omega) (show (h 236 4) = (i12 : Int) by omega) (rfl : tB i12 = tB i12) (by omega) (by omega)
          have tN22 := @tk_nx_b tB tn tp (by omega) (by omega)
          refine wi_aload_n (i := 0) (x := 236) (nx := 206) (r1 := 0) (r2 := 0) (r3 := 0) rfl rfl ?_
          refine wi_iload_n (i := 1) (e := h 237 i12) (nx := 207) (r1 := 0) (r2 := 0) (r3 := 0) rfl rfl ?_
          refine wi_bipush (n := 59) (nx := 209) (r1 := 0) (r2 := 0) (r3 := 0) rfl (by decide) ?_
          refine wi_icmp (cd := .eq) (nx := 212) (r1 := 224) (r2 := 0) (r3 := 0) rfl (by omega) (by omega) (fun (q23 : (h 237 i12) = 59) => ?_) (fun (q23 : ¬ ((h 237 i12) = 59)) => ?_)
          ·
            refine wi_iconst (n := 3) (nx := 225) (r1 := 0) (r2 := 0) (r3 := 0) rfl ?_
            refine wi_goto (nx := 228) (r1 := 229) (r2 := 0) (r3 := 0) rfl ?_
            refine wr_pf0 (k0 := 236) (x := 3) (bl := 0) (bh := 4) (nx := 232) (r1 := 11) (r2 := 6) (r3 := 0) rfl (by decide) rfl ⟨rfl, rfl⟩ rfl rfl g7 rfl (by omega) (fun h24 g24 w24 u24 => ?_)
            have F25 := F8.then rfl u24
            refine wi_aload_n (i := 0) (x := 236) (nx := 233) (r1 := 0) (r2 := 0) (r3 := 0) rfl rfl ?_
            refine wi_iload_n (i := 1) (e := h 237 i12) (nx := 234) (r1 := 0) (r2 := 0) (r3 := 0) rfl rfl ?_
            refine wr_pf0 (k0 := 236) (x := h 237 i12) (bl := 0) (bh := 999) (nx := 237) (r1 := 11) (r2 := 7) (r3 := 0) rfl (by decide) rfl ⟨rfl, rfl⟩ rfl rfl g24 rfl (by omega) (fun h26 g26 w26 u26 => ?_)
            have F27 := F25.then rfl u26
            refine wi_iconst (n := 1) (nx := 238) (r1 := 0) (r2 := 0) (r3 := 0) rfl ?_
            refine wi_istore_n (i := 2) (e := 1) (lo2 := [(2, vi 1), (1, vi (h 237 i12)), (0, .ref 236)]) (nx := 239) (r1 := 0) (r2 := 0) (r3 := 0) rfl rfl ?_
            refine wi_aload_n (i := 0) (x := 236) (nx := 240) (r1 := 0) (r2 := 0) (r3 := 0) rfl rfl ?_
            refine wi_dup (nx := 241) (r1 := 0) (r2 := 0) (r3 := 0) rfl rfl ?_
            refine wr_gi0 (k0 := 236) (x := h 236 4) (nx := 244) (r1 := 11) (r2 := 4) (r3 := 0) rfl rfl (by decide) rfl ⟨rfl, rfl⟩ rfl ((u26 236 4 rfl).trans ((u24 236 4 rfl).trans ((u7 236 4 rfl).trans ((u5 236 4 rfl).trans (u3 236 4 rfl))))) ?_
            refine wi_iload_n (i := 2) (e := 1) (nx := 245) (r1 := 0) (r2 := 0) (r3 := 0) rfl rfl ?_
            refine wr_add (nx := 246) (r1 := 0) (r2 := 0) (r3 := 0) rfl (fun e28 (fe28 : e28 = (h 236 4) + 1) => ?_)
            refine wr_pf0 (k0 := 236) (x := e28) (bl := 0) (bh := 800) (nx := 249) (r1 := 11) (r2 := 4) (r3 := 0) rfl (by decide) rfl ⟨rfl, rfl⟩ rfl rfl g26 rfl (by omega) (fun h29 g29 w29 u29 => ?_)
            have F30 := F27.then rfl u29
            refine wi_return (nx := 250) (r1 := 0) (r2 := 0) (r3 := 0) rfl rfl ?_
            have e31 : h29 236 4 = e28 := w29
            have e32 : h29 236 5 = h 236 4 := ((u29 236 5 rfl).trans ((u26 236 5 rfl).trans ((u24 236 5 rfl).trans ((u7 236 5 rfl).trans ((u5 236 5 rfl).trans w3)))))
            have e33 : h29 236 6 = 3 := ((u29 236 6 rfl).trans ((u26 236 6 rfl).trans w24))
            have e34 : h29 236 7 = h 237 i12 := ((u29 236 7 rfl).trans w26)
            have e35 : h29 236 12 = 0 := ((u29 236 12 rfl).trans ((u26 236 12 rfl).trans ((u24 236 12 rfl).trans ((u7 236 12 rfl).trans w5))))
            exact k h29 g29 F30 (show (h 236 4) ≤ (h29 236 4) by omega) (show (h29 236 4) ≤ (h 236 3) by omega) (show ((h29 236 4) = tk_nx tB tn tp ∧ (h29 236 5) = tk_st tB tn tp ∧ TKk tB tn tp ((h29 236 6)) ((h29 236 7)) ((h29 236 12))) by first | assumption | exact ⟨by omega, by omega, TKk.i3 (by omega) (by omega) (by omega)⟩ | exact ⟨by omega, by omega, TKk.i4 (by omega) (by omega) (by omega)⟩ | exact ⟨by omega, by omega, TKk.i5 (by omega) (by omega) (by omega)⟩ | exact ⟨by omega, by omega, TKk.mv (by assumption) (by omega) (by omega) (by omega)⟩) (show tp ≤ tk_nx tB tn tp ∧ tk_nx tB tn tp ≤ tn by omega)
          ·
            refine wi_iload_n (i := 1) (e := h 237 i12) (nx := 213) (r1 := 0) (r2 := 0) (r3 := 0) rfl rfl ?_
            refine wi_bipush (n := 40) (nx := 215) (r1 := 0) (r2 := 0) (r3 := 0) rfl (by decide) ?_
            refine wi_icmp (cd := .eq) (nx := 218) (r1 := 224) (r2 := 0) (r3 := 0) rfl (by omega) (by omega) (fun (q24 : (h 237 i12) = 40) => by exfalso; omega) (fun (q24 : ¬ ((h 237 i12) = 40)) => ?_)
            refine wi_iload_n (i := 1) (e := h 237 i12) (nx := 219) (r1 := 0) (r2 := 0) (r3 := 0) rfl rfl ?_
            refine wi_bipush (n := 41) (nx := 221) (r1 := 0) (r2 := 0) (r3 := 0) rfl (by decide) ?_
            refine wi_icmp (cd := .ne) (nx := 224) (r1 := 228) (r2 := 0) (r3 := 0) rfl (by omega) (by omega) (fun (q25 : (h 237 i12) ≠ 41) => ?_) (fun (q25 : ¬ ((h 237 i12) ≠ 41)) => by exfalso; omega)
            refine wi_iconst (n := 4) (nx := 229) (r1 := 0) (r2 := 0) (r3 := 0) rfl ?_
            refine wr_pf0 (k0 := 236) (x := 4) (bl := 0) (bh := 4) (nx := 232) (r1 := 11) (r2 := 6) (r3 := 0) rfl (by decide) rfl ⟨rfl, rfl⟩ rfl rfl g7 rfl (by omega) (fun h26 g26 w26 u26 => ?_)
            have F27 := F8.then rfl u26
            refine wi_aload_n (i := 0) (x := 236) (nx := 233) (r1 := 0) (r2 := 0) (r3 := 0) rfl rfl ?_
            refine wi_iload_n (i := 1) (e := h 237 i12) (nx := 234) (r1 := 0) (r2 := 0) (r3 := 0) rfl rfl ?_
            refine wr_pf0 (k0 := 236) (x := h 237 i12) (bl := 0) (bh := 999) (nx := 237) (r1 := 11) (r2 := 7) (r3 := 0) rfl (by decide) rfl ⟨rfl, rfl⟩ rfl rfl g26 rfl (by omega) (fun h28 g28 w28 u28 => ?_)
            have F29 := F27.then rfl u28
            refine wi_iconst (n := 1) (nx := 238) (r1 := 0) (r2 := 0) (r3 := 0) rfl ?_
            refine wi_istore_n (i := 2) (e := 1) (lo2 := [(2, vi 1), (1, vi (h 237 i12)), (0, .ref 236)]) (nx := 239) (r1 := 0) (r2 := 0) (r3 := 0) rfl rfl ?_
            refine wi_aload_n (i := 0) (x := 236) (nx := 240) (r1 := 0) (r2 := 0) (r3 := 0) rfl rfl ?_
            refine wi_dup (nx := 241) (r1 := 0) (r2 := 0) (r3 := 0) rfl rfl ?_
            refine wr_gi0 (k0 := 236) (x := h 236 4) (nx := 244) (r1 := 11) (r2 := 4) (r3 := 0) rfl rfl (by decide) rfl ⟨rfl, rfl⟩ rfl ((u28 236 4 rfl).trans ((u26 236 4 rfl).trans ((u7 236 4 rfl).trans ((u5 236 4 rfl).trans (u3 236 4 rfl))))) ?_
            refine wi_iload_n (i := 2) (e := 1) (nx := 245) (r1 := 0) (r2 := 0) (r3 := 0) rfl rfl ?_
            refine wr_add (nx := 246) (r1 := 0) (r2 := 0) (r3 := 0) rfl (fun e30 (fe30 : e30 = (h 236 4) + 1) => ?_)
            refine wr_pf0 (k0 := 236) (x := e30) (bl := 0) (bh := 800) (nx := 249) (r1 := 11) (r2 := 4) (r3 := 0) rfl (by decide) rfl ⟨rfl, rfl⟩ rfl rfl g28 rfl (by omega) (fun h31 g31 w31 u31 => ?_)
            have F32 := F29.then rfl u31
            refine wi_return (nx := 250) (r1 := 0) (r2 := 0) (r3 := 0) rfl rfl ?_
            have e33 : h31 236 4 = e30 := w31
            have e34 : h31 236 5 = h 236 4 := ((u31 236 5 rfl).trans ((u28 236 5 rfl).trans ((u26 236 5 rfl).trans ((u7 236 5 rfl).trans ((u5 236 5 rfl).trans w3)))))
            have e35 : h31 236 6 = 4 := ((u31 236 6 rfl).trans ((u28 236 6 rfl).trans w26))
            have e36 : h31 236 7 = h 237 i12 := ((u31 236 7 rfl).trans w28)
            have e37 : h31 236 12 = 0 := ((u31 236 12 rfl).trans ((u28 236 12 rfl).trans ((u26 236 12 rfl).trans ((u7 236 12 rfl).trans w5))))
            exact k h31 g31 F32 (show (h 236 4) ≤ (h31 236 4) by omega) (show (h31 236 4) ≤ (h 236 3) by omega) (show ((h31 236 4) = tk_nx tB tn tp ∧ (h31 236 5) = tk_st tB tn tp ∧ TKk tB tn tp ((h31 236 6)) ((h31 236 7)) ((h31 236 12))) by first | assumption | exact ⟨by omega, by omega, TKk.i6 (by omega) (by omega)⟩ | exact ⟨by omega, by omega, TKk.mv (by assumption) (by omega) (by omega) (by omega)⟩) (show tp ≤ tk_nx tB tn tp ∧ tk_nx tB tn tp ≤ tn by omega)
        ·
          refine wi_iconst (n := 1) (nx := 13) (r1 := 0) (r2 := 0) (r3 := 0) rfl ?_
          refine wi_goto (nx := 16) (r1 := 17) (r2 := 0) (r3 := 0) rfl ?_
          refine wi_zreturn (nx := 18) (r1 := 0) (r2 := 0) (r3 := 0) rfl rfl (by omega) ?_
          refine wk_i ?_
          refine wi_if (cd := .eq) (nx := 146) (r1 := 205) (r2 := 0) (r3 := 0) rfl (by omega) (fun (q20 : 1 = 0) => by exfalso; omega) (fun (q20 : ¬ (1 = 0)) => ?_)
          refine wp.lo (lo := [(0, .ref 236), (2, vi 0)]) ⟨rfl, rfl, trivial⟩ rfl ?_
          have e22 : h7 236 4 = h 236 4 := ((u7 236 4 rfl).trans ((u5 236 4 rfl).trans (u3 236 4 rfl)))
          have e23 : h7 236 3 = h 236 3 := ((u7 236 3 rfl).trans ((u5 236 3 rfl).trans (u3 236 3 rfl)))
          have e24 : h7 236 5 = h 236 4 := ((u7 236 5 rfl).trans ((u5 236 5 rfl).trans w3))
          have e25 : h7 237 (0 + (h7 236 4).toNat) = h 237 i12 := by rw [show 0 + (h7 236 4).toNat = i12 by omega]; exact ((u7 237 i12 (fn_a (by omega) fn_0)).trans ((u5 237 i12 (fn_a (by omega) fn_0)).trans (u3 237 i12 (fn_a (by omega) fn_0))))
          have e26 : h7 236 7 = 0 := w7
          have rb27 := RefB.fr u3 rfl xq0
          have rb28 := RefB.fr u5 rfl rb27
          have rb29 := RefB.fr u7 rfl rb28
          refine ct_215_p146_236_L2_0 hcr  g7   (show (h7 236 4) + 1 ≤ (h7 236 3) by omega) (show tk_st tB tn tp = (h7 236 4) by omega) (show (h7 236 5) = (h7 236 4) by omega) (show 0 ≤ tp by omega) (show tp ≤ tn by omega) (show tp ≤ (h7 236 4) by omega) (show 48 ≤ (h7 237 (0 + (h7 236 4).toNat)) by omega) (show (h7 237 (0 + (h7 236 4).toNat)) ≤ 57 by omega) (show (h7 236 7) = 0 by omega) rb29 (fun h21 g21 u21 (p21_0 : (h7 236 4) ≤ (h21 236 4)) (p21_1 : (h21 236 4) ≤ (h7 236 3)) (p21_2 : ((h21 236 4) = tk_nx tB tn tp ∧ (h21 236 5) = tk_st tB tn tp ∧ TKk tB tn tp ((h21 236 6)) ((h21 236 7)) ((h21 236 12)))) (p21_3 : tp ≤ tk_nx tB tn tp ∧ tk_nx tB tn tp ≤ tn) => ?_)
          have F30 := F8.then (by decide +kernel) u21
          have b31 := gi_b (lo := 0) (hi := 800) g21 236 4 rfl
          have e32 : h21 236 5 = h 236 4 := ((u21 236 5 rfl).trans ((u7 236 5 rfl).trans ((u5 236 5 rfl).trans w3)))
          have b33 := gi_b (lo := 0) (hi := 4) g21 236 6 rfl
          have b34 := gi_b (lo := 0) (hi := 999) g21 236 7 rfl
          have e35 : h21 236 12 = 0 := ((u21 236 12 rfl).trans ((u7 236 12 rfl).trans w5))
          have tkk36 := p21_2.2.2
          exact k h21 g21 F30 (show (h 236 4) ≤ (h21 236 4) by omega) (show (h21 236 4) ≤ (h 236 3) by omega) (show ((h21 236 4) = tk_nx tB tn tp ∧ (h21 236 5) = tk_st tB tn tp ∧ TKk tB tn tp ((h21 236 6)) ((h21 236 7)) ((h21 236 12))) by first | assumption | exact ⟨by omega, by omega, TKk.mv (by assumption) (by omega) (by omega) (by omega)⟩) (show tp ≤ tk_nx tB tn tp ∧ tk_nx tB tn tp ≤ tn by omega)
    ·
      refine wi_iload_n (i := 0) (e := h 237 i12) (nx := 7) (r1 := 0) (r2 := 0) (r3 := 0) rfl rfl ?_
      refine wi_bipush (n := 122) (nx := 9) (r1 := 0) (r2 := 0) (r3 := 0) rfl (by decide) ?_
      refine wi_icmp (cd := .gt) (nx := 12) (r1 := 16) (r2 := 0) (r3 := 0) rfl (by omega) (by omega) (fun (q17 : 122 < (h 237 i12)) => ?_) (fun (q17 : ¬ (122 < (h 237 i12))) => ?_)
      ·
        refine wi_iconst (n := 0) (nx := 17) (r1 := 0) (r2 := 0) (r3 := 0) rfl ?_
        refine wi_zreturn (nx := 18) (r1 := 0) (r2 := 0) (r3 := 0) rfl rfl (by omega) ?_
        refine wk_i ?_
        refine wi_if (cd := .eq) (nx := 76) (r1 := 139) (r2 := 0) (r3 := 0) rfl (by omega) (fun (q18 : 0 = 0) => ?_) (fun (q18 : ¬ (0 = 0)) => by exfalso; omega)
        refine wi_iload_n (i := 1) (e := h 237 i12) (nx := 140) (r1 := 0) (r2 := 0) (r3 := 0) rfl rfl ?_
        refine wi_S (rest := []) (as := [vi (h 237 i12)]) (nx := 143) (r1 := 218) (r2 := 17) (r3 := 0) rfl rfl rfl (of_decide_eq_true rfl) rfl rfl (of_decide_eq_true rfl) (of_decide_eq_true rfl) ?_
        refine wi_iload_n (i := 0) (e := h 237 i12) (nx := 1) (r1 := 0) (r2 := 0) (r3 := 0) rfl rfl ?_
        refine wi_bipush (n := 48) (nx := 3) (r1 := 0) (r2 := 0) (r3 := 0) rfl (by decide) ?_
        refine wi_icmp (cd := .lt) (nx := 6) (r1 := 16) (r2 := 0) (r3 := 0) rfl (by omega) (by omega) (fun (q19 : (h 237 i12) < 48) => by exfalso; omega) (fun (q19 : ¬ ((h 237 i12) < 48)) => ?_)
        refine wi_iload_n (i := 0) (e := h 237 i12) (nx := 7) (r1 := 0) (r2 := 0) (r3 := 0) rfl rfl ?_
        refine wi_bipush (n := 57) (nx := 9) (r1 := 0) (r2 := 0) (r3 := 0) rfl (by decide) ?_
        refine wi_icmp (cd := .gt) (nx := 12) (r1 := 16) (r2 := 0) (r3 := 0) rfl (by omega) (by omega) (fun (q20 : 57 < (h 237 i12)) => ?_) (fun (q20 : ¬ (57 < (h 237 i12))) => by exfalso; omega)
        refine wi_iconst (n := 0) (nx := 17) (r1 := 0) (r2 := 0) (r3 := 0) rfl ?_
        refine wi_zreturn (nx := 18) (r1 := 0) (r2 := 0) (r3 := 0) rfl rfl (by omega) ?_
        refine wk_i ?_
        refine wi_if (cd := .eq) (nx := 146) (r1 := 205) (r2 := 0) (r3 := 0) rfl (by omega) (fun (q21 : 0 = 0) => ?_) (fun (q21 : ¬ (0 = 0)) => by exfalso; omega)
        have tA22 := tk_atM pp1 (by omega) (show (h 236 4) = (i12 : Int) by omega) (rfl : tB i12 = tB i12) (by omega) (by omega)
        have tN23 := @tk_nx_b tB tn tp (by omega) (by omega)
        refine wi_aload_n (i := 0) (x := 236) (nx := 206) (r1 := 0) (r2 := 0) (r3 := 0) rfl rfl ?_
        refine wi_iload_n (i := 1) (e := h 237 i12) (nx := 207) (r1 := 0) (r2 := 0) (r3 := 0) rfl rfl ?_
        refine wi_bipush (n := 59) (nx := 209) (r1 := 0) (r2 := 0) (r3 := 0) rfl (by decide) ?_
        refine wi_icmp (cd := .eq) (nx := 212) (r1 := 224) (r2 := 0) (r3 := 0) rfl (by omega) (by omega) (fun (q24 : (h 237 i12) = 59) => by exfalso; omega) (fun (q24 : ¬ ((h 237 i12) = 59)) => ?_)
        refine wi_iload_n (i := 1) (e := h 237 i12) (nx := 213) (r1 := 0) (r2 := 0) (r3 := 0) rfl rfl ?_
        refine wi_bipush (n := 40) (nx := 215) (r1 := 0) (r2 := 0) (r3 := 0) rfl (by decide) ?_
        refine wi_icmp (cd := .eq) (nx := 218) (r1 := 224) (r2 := 0) (r3 := 0) rfl (by omega) (by omega) (fun (q25 : (h 237 i12) = 40) => by exfalso; omega) (fun (q25 : ¬ ((h 237 i12) = 40)) => ?_)
        refine wi_iload_n (i := 1) (e := h 237 i12) (nx := 219) (r1 := 0) (r2 := 0) (r3 := 0) rfl rfl ?_
        refine wi_bipush (n := 41) (nx := 221) (r1 := 0) (r2 := 0) (r3 := 0) rfl (by decide) ?_
        refine wi_icmp (cd := .ne) (nx := 224) (r1 := 228) (r2 := 0) (r3 := 0) rfl (by omega) (by omega) (fun (q26 : (h 237 i12) ≠ 41) => ?_) (fun (q26 : ¬ ((h 237 i12) ≠ 41)) => by exfalso; omega)
        refine wi_iconst (n := 4) (nx := 229) (r1 := 0) (r2 := 0) (r3 := 0) rfl ?_
        refine wr_pf0 (k0 := 236) (x := 4) (bl := 0) (bh := 4) (nx := 232) (r1 := 11) (r2 := 6) (r3 := 0) rfl (by decide) rfl ⟨rfl, rfl⟩ rfl rfl g7 rfl (by omega) (fun h27 g27 w27 u27 => ?_)
        have F28 := F8.then rfl u27
        refine wi_aload_n (i := 0) (x := 236) (nx := 233) (r1 := 0) (r2 := 0) (r3 := 0) rfl rfl ?_
        refine wi_iload_n (i := 1) (e := h 237 i12) (nx := 234) (r1 := 0) (r2 := 0) (r3 := 0) rfl rfl ?_
        refine wr_pf0 (k0 := 236) (x := h 237 i12) (bl := 0) (bh := 999) (nx := 237) (r1 := 11) (r2 := 7) (r3 := 0) rfl (by decide) rfl ⟨rfl, rfl⟩ rfl rfl g27 rfl (by omega) (fun h29 g29 w29 u29 => ?_)
        have F30 := F28.then rfl u29
        refine wi_iconst (n := 1) (nx := 238) (r1 := 0) (r2 := 0) (r3 := 0) rfl ?_
        refine wi_istore_n (i := 2) (e := 1) (lo2 := [(2, vi 1), (1, vi (h 237 i12)), (0, .ref 236)]) (nx := 239) (r1 := 0) (r2 := 0) (r3 := 0) rfl rfl ?_
        refine wi_aload_n (i := 0) (x := 236) (nx := 240) (r1 := 0) (r2 := 0) (r3 := 0) rfl rfl ?_
        refine wi_dup (nx := 241) (r1 := 0) (r2 := 0) (r3 := 0) rfl rfl ?_
        refine wr_gi0 (k0 := 236) (x := h 236 4) (nx := 244) (r1 := 11) (r2 := 4) (r3 := 0) rfl rfl (by decide) rfl ⟨rfl, rfl⟩ rfl ((u29 236 4 rfl).trans ((u27 236 4 rfl).trans ((u7 236 4 rfl).trans ((u5 236 4 rfl).trans (u3 236 4 rfl))))) ?_
        refine wi_iload_n (i := 2) (e := 1) (nx := 245) (r1 := 0) (r2 := 0) (r3 := 0) rfl rfl ?_
        refine wr_add (nx := 246) (r1 := 0) (r2 := 0) (r3 := 0) rfl (fun e31 (fe31 : e31 = (h 236 4) + 1) => ?_)
        refine wr_pf0 (k0 := 236) (x := e31) (bl := 0) (bh := 800) (nx := 249) (r1 := 11) (r2 := 4) (r3 := 0) rfl (by decide) rfl ⟨rfl, rfl⟩ rfl rfl g29 rfl (by omega) (fun h32 g32 w32 u32 => ?_)
        have F33 := F30.then rfl u32
        refine wi_return (nx := 250) (r1 := 0) (r2 := 0) (r3 := 0) rfl rfl ?_
        have e34 : h32 236 4 = e31 := w32
        have e35 : h32 236 5 = h 236 4 := ((u32 236 5 rfl).trans ((u29 236 5 rfl).trans ((u27 236 5 rfl).trans ((u7 236 5 rfl).trans ((u5 236 5 rfl).trans w3)))))
        have e36 : h32 236 6 = 4 := ((u32 236 6 rfl).trans ((u29 236 6 rfl).trans w27))
        have e37 : h32 236 7 = h 237 i12 := ((u32 236 7 rfl).trans w29)
        have e38 : h32 236 12 = 0 := ((u32 236 12 rfl).trans ((u29 236 12 rfl).trans ((u27 236 12 rfl).trans ((u7 236 12 rfl).trans w5))))
        exact k h32 g32 F33 (show (h 236 4) ≤ (h32 236 4) by omega) (show (h32 236 4) ≤ (h 236 3) by omega) (show ((h32 236 4) = tk_nx tB tn tp ∧ (h32 236 5) = tk_st tB tn tp ∧ TKk tB tn tp ((h32 236 6)) ((h32 236 7)) ((h32 236 12))) by first | assumption | exact ⟨by omega, by omega, TKk.i6 (by omega) (by omega)⟩ | exact ⟨by omega, by omega, TKk.mv (by assumption) (by omega) (by omega) (by omega)⟩) (show tp ≤ tk_nx tB tn tp ∧ tk_nx tB tn tp ≤ tn by omega)
      ·
        refine wi_iconst (n := 1) (nx := 13) (r1 := 0) (r2 := 0) (r3 := 0) rfl ?_
        refine wi_goto (nx := 16) (r1 := 17) (r2 := 0) (r3 := 0) rfl ?_
        refine wi_zreturn (nx := 18) (r1 := 0) (r2 := 0) (r3 := 0) rfl rfl (by omega) ?_
        refine wk_i ?_
        refine wi_if (cd := .eq) (nx := 76) (r1 := 139) (r2 := 0) (r3 := 0) rfl (by omega) (fun (q18 : 1 = 0) => by exfalso; omega) (fun (q18 : ¬ (1 = 0)) => ?_)
        refine wp.lo (lo := [(0, .ref 236), (2, vi 0)]) ⟨rfl, rfl, trivial⟩ rfl ?_
        have e20 : h7 236 4 = h 236 4 := ((u7 236 4 rfl).trans ((u5 236 4 rfl).trans (u3 236 4 rfl)))
        have e21 : h7 236 3 = h 236 3 := ((u7 236 3 rfl).trans ((u5 236 3 rfl).trans (u3 236 3 rfl)))
        have e22 : h7 236 5 = h 236 4 := ((u7 236 5 rfl).trans ((u5 236 5 rfl).trans w3))
        have e23 : h7 237 (0 + (h7 236 4).toNat) = h 237 i12 := by rw [show 0 + (h7 236 4).toNat = i12 by omega]; exact ((u7 237 i12 (fn_a (by omega) fn_0)).trans ((u5 237 i12 (fn_a (by omega) fn_0)).trans (u3 237 i12 (fn_a (by omega) fn_0))))
        have e24 : h7 236 12 = 0 := ((u7 236 12 rfl).trans w5)
        have rb25 := RefB.fr u3 rfl xq0
        have rb26 := RefB.fr u5 rfl rb25
        have rb27 := RefB.fr u7 rfl rb26
        refine ct_215_p76_236_L2_0 hcr  g7   (show (h7 236 4) + 1 ≤ (h7 236 3) by omega) (show tk_st tB tn tp = (h7 236 4) by omega) (show (h7 236 5) = (h7 236 4) by omega) (show 0 ≤ tp by omega) (show tp ≤ tn by omega) (show tp ≤ (h7 236 4) by omega) (show 97 ≤ (h7 237 (0 + (h7 236 4).toNat)) by omega) (show (h7 237 (0 + (h7 236 4).toNat)) ≤ 122 by omega) (show (h7 236 12) = 0 by omega) rb27 (fun h19 g19 u19 (p19_0 : (h7 236 4) ≤ (h19 236 4)) (p19_1 : (h19 236 4) ≤ (h7 236 3)) (p19_2 : ((h19 236 4) = tk_nx tB tn tp ∧ (h19 236 5) = tk_st tB tn tp ∧ TKk tB tn tp ((h19 236 6)) ((h19 236 7)) ((h19 236 12)))) (p19_3 : tp ≤ tk_nx tB tn tp ∧ tk_nx tB tn tp ≤ tn) => ?_)
        have F28 := F8.then (by decide +kernel) u19
        have b29 := gi_b (lo := 0) (hi := 800) g19 236 4 rfl
        have e30 : h19 236 5 = h 236 4 := ((u19 236 5 rfl).trans ((u7 236 5 rfl).trans ((u5 236 5 rfl).trans w3)))
        have b31 := gi_b (lo := 0) (hi := 4) g19 236 6 rfl
        have e32 : h19 236 7 = 0 := ((u19 236 7 rfl).trans w7)
        have b33 := gi_b (lo := -9223372036854775808) (hi := 9223372036854775807) g19 236 12 rfl
        have tkk34 := p19_2.2.2
        exact k h19 g19 F28 (show (h 236 4) ≤ (h19 236 4) by omega) (show (h19 236 4) ≤ (h 236 3) by omega) (show ((h19 236 4) = tk_nx tB tn tp ∧ (h19 236 5) = tk_st tB tn tp ∧ TKk tB tn tp ((h19 236 6)) ((h19 236 7)) ((h19 236 12))) by first | assumption | exact ⟨by omega, by omega, TKk.mv (by assumption) (by omega) (by omega) (by omega)⟩) (show tp ≤ tk_nx tB tn tp ∧ tk_nx tB tn tp ≤ tn by omega)
-- method 215: Model.goOn()V
set_option maxRecDepth 100000 in
set_option maxHeartbeats 100000000 in
theorem ct_215_236 {L : Nat} {xs : Nat → Int32} {d b c : Nat} {h : hp} {cr : Nat → Nat → Option Nat} {Q : hp_Q} (hcr : CR cr)  {tB : Nat → Int} {tn tg : Int} (g : GI h)   (pp0 : h 236 4 ≤ h 236 3) (pp1 : h 236 4 = tg) (pp2 : 0 ≤ tg) (pp3 : tg ≤ tn) (xq0 : RefB tB tn h) (k : ∀ (h2 : hp) , GI h2 → FR [(236, 236, some (4, 4)), (236, 236, some (5, 5)), (236, 236, some (6, 6)), (236, 236, some (7, 7)), (236, 236, some (12, 12))] h h2 → (h 236 4 ≤ h2 236 4) → (h2 236 4 ≤ h 236 3) → ((h2 236 4 = tk_nx tB tn tg ∧ h2 236 5 = tk_st tB tn tg ∧ TKk tB tn tg (h2 236 6) (h2 236 7) (h2 236 12))) → (tg ≤ tk_nx tB tn tg ∧ tk_nx tB tn tg ≤ tn) → Q (.inl none) (hp_w h2 cr) b c) : wp (md_xa (L, xs)) (d + 1) 215 (0, [(0, .ref 236)], [], hp_w h cr, b, c) Q := by
  have F0 : FR [(236, 236, some (4, 4)), (236, 236, some (5, 5)), (236, 236, some (6, 6)), (236, 236, some (7, 7)), (236, 236, some (12, 12))] h h := FR.refl
  have tb_1 : h 236 3 = tn := xq0.2.1
  have tb_2 : 0 ≤ tn ∧ tn ≤ 800 := xq0.2.2
  have b1 := gi_b (lo := 0) (hi := 800) g 236 4 rfl
  have b2 := gi_b (lo := 0) (hi := 800) g 236 3 rfl
  refine wl_0 (fun h3 => GI h3 ∧ FR [(236, 236, some (4, 4)), (236, 236, some (5, 5)), (236, 236, some (6, 6)), (236, 236, some (7, 7)), (236, 236, some (12, 12))] h h3 ∧ FR [(236, 236, some (4, 4))] h h3 ∧ (((h3 236 4) ≤ (h3 236 3)) ∧ (tg ≤ (h3 236 4))) ∧ tk_st tB tn (h3 236 4) = tk_st tB tn tg) (fun h3 => ((h3 236 3) - (h3 236 4)).toNat) (fun h3 => (0, [(0, .ref 236)], [], hp_w h3 cr, b, c)) ?_ h ⟨g, F0, FR.refl, (show ((h 236 4) ≤ (h 236 3)) ∧ (tg ≤ (h 236 4)) by omega), (congrArg (tk_st tB tn) (show h 236 4 = tg by omega))⟩
  intro h3 ⟨g3, F4, u3, f3, X3_0⟩ I3
  have e5 : h3 236 3 = h 236 3 := (u3 236 3 rfl)
  have b6 := gi_b (lo := 0) (hi := 800) g3 236 4 rfl
  refine wi_aload_n (i := 0) (x := 236) (nx := 1) (r1 := 0) (r2 := 0) (r3 := 0) rfl rfl ?_
  refine wi_iconst (n := 0) (nx := 2) (r1 := 0) (r2 := 0) (r3 := 0) rfl ?_
  refine wr_V (k0 := 236) (rest := []) (as := [.ref 236, vi 0]) (nx := 5) (r1 := 216) (r2 := 1) (r3 := 11) rfl rfl rfl (of_decide_eq_true rfl) rfl rfl (by decide) rfl rfl (of_decide_eq_true rfl) (of_decide_eq_true rfl) ?_
  refine wi_aload_n (i := 0) (x := 236) (nx := 1) (r1 := 0) (r2 := 0) (r3 := 0) rfl rfl ?_
  refine wr_gi0 (k0 := 236) (x := h3 236 4) (nx := 4) (r1 := 11) (r2 := 4) (r3 := 0) rfl rfl (by decide) rfl ⟨rfl, rfl⟩ rfl rfl ?_
  refine wi_iload_n (i := 1) (e := 0) (nx := 5) (r1 := 0) (r2 := 0) (r3 := 0) rfl rfl ?_
  refine wr_add (nx := 6) (r1 := 0) (r2 := 0) (r3 := 0) rfl (fun e7 (fe7 : e7 = (h3 236 4) + 0) => ?_)
  refine wi_aload_n (i := 0) (x := 236) (nx := 7) (r1 := 0) (r2 := 0) (r3 := 0) rfl rfl ?_
  refine wr_gi0 (k0 := 236) (x := h 236 3) (nx := 10) (r1 := 11) (r2 := 3) (r3 := 0) rfl rfl (by decide) rfl ⟨rfl, rfl⟩ rfl (u3 236 3 rfl) ?_
  refine wi_icmp (cd := .ge) (nx := 13) (r1 := 27) (r2 := 0) (r3 := 0) rfl (by omega) (by omega) (fun (q8 : (h 236 3) ≤ e7) => ?_) (fun (q8 : ¬ ((h 236 3) ≤ e7)) => ?_)
  ·
    refine wi_iconst (n := (-1)) (nx := 28) (r1 := 0) (r2 := 0) (r3 := 0) rfl ?_
    refine wi_ireturn (nx := 29) (r1 := 0) (r2 := 0) (r3 := 0) rfl rfl ?_
    refine wk_i ?_
    refine wi_bipush (n := 32) (nx := 7) (r1 := 0) (r2 := 0) (r3 := 0) rfl (by decide) ?_
    refine wi_icmp (cd := .eq) (nx := 10) (r1 := 20) (r2 := 0) (r3 := 0) rfl (by omega) (by omega) (fun (q9 : (-1) = 32) => by exfalso; omega) (fun (q9 : ¬ ((-1) = 32)) => ?_)
    refine wi_aload_n (i := 0) (x := 236) (nx := 11) (r1 := 0) (r2 := 0) (r3 := 0) rfl rfl ?_
    refine wi_iconst (n := 0) (nx := 12) (r1 := 0) (r2 := 0) (r3 := 0) rfl ?_
    refine wr_V (k0 := 236) (rest := []) (as := [.ref 236, vi 0]) (nx := 15) (r1 := 216) (r2 := 1) (r3 := 11) rfl rfl rfl (of_decide_eq_true rfl) rfl rfl (by decide) rfl rfl (of_decide_eq_true rfl) (of_decide_eq_true rfl) ?_
    refine wi_aload_n (i := 0) (x := 236) (nx := 1) (r1 := 0) (r2 := 0) (r3 := 0) rfl rfl ?_
    refine wr_gi0 (k0 := 236) (x := h3 236 4) (nx := 4) (r1 := 11) (r2 := 4) (r3 := 0) rfl rfl (by decide) rfl ⟨rfl, rfl⟩ rfl rfl ?_
    refine wi_iload_n (i := 1) (e := 0) (nx := 5) (r1 := 0) (r2 := 0) (r3 := 0) rfl rfl ?_
    refine wr_add (nx := 6) (r1 := 0) (r2 := 0) (r3 := 0) rfl (fun e10 (fe10 : e10 = (h3 236 4) + 0) => ?_)
    refine wi_aload_n (i := 0) (x := 236) (nx := 7) (r1 := 0) (r2 := 0) (r3 := 0) rfl rfl ?_
    refine wr_gi0 (k0 := 236) (x := h 236 3) (nx := 10) (r1 := 11) (r2 := 3) (r3 := 0) rfl rfl (by decide) rfl ⟨rfl, rfl⟩ rfl (u3 236 3 rfl) ?_
    refine wi_icmp (cd := .ge) (nx := 13) (r1 := 27) (r2 := 0) (r3 := 0) rfl (by omega) (by omega) (fun (q11 : (h 236 3) ≤ e10) => ?_) (fun (q11 : ¬ ((h 236 3) ≤ e10)) => by exfalso; omega)
    refine wi_iconst (n := (-1)) (nx := 28) (r1 := 0) (r2 := 0) (r3 := 0) rfl ?_
    refine wi_ireturn (nx := 29) (r1 := 0) (r2 := 0) (r3 := 0) rfl rfl ?_
    refine wk_i ?_
    refine wi_bipush (n := 10) (nx := 17) (r1 := 0) (r2 := 0) (r3 := 0) rfl (by decide) ?_
    refine wi_icmp (cd := .ne) (nx := 20) (r1 := 33) (r2 := 0) (r3 := 0) rfl (by omega) (by omega) (fun (q12 : (-1) ≠ 10) => ?_) (fun (q12 : ¬ ((-1) ≠ 10)) => by exfalso; omega)
    have tS13 : tk_st tB tn tg = h3 236 4 := tk_ste1 X3_0 (by omega) (by omega)
    have rb15 := RefB.fr u3 rfl xq0
    refine ct_215_p33_236 hcr  g3   (show (h3 236 4) ≤ (h3 236 3) by omega) (show tk_st tB tn tg = (h3 236 4) by omega) (show 0 ≤ tg by omega) (show tg ≤ tn by omega) (show tg ≤ (h3 236 4) by omega) rb15 (fun h14 g14 u14 (p14_0 : (h3 236 4) ≤ (h14 236 4)) (p14_1 : (h14 236 4) ≤ (h3 236 3)) (p14_2 : ((h14 236 4) = tk_nx tB tn tg ∧ (h14 236 5) = tk_st tB tn tg ∧ TKk tB tn tg ((h14 236 6)) ((h14 236 7)) ((h14 236 12)))) (p14_3 : tg ≤ tk_nx tB tn tg ∧ tk_nx tB tn tg ≤ tn) => ?_)
    have F16 := F4.then (by decide +kernel) u14
    have b17 := gi_b (lo := 0) (hi := 800) g14 236 4 rfl
    have b18 := gi_b (lo := 0) (hi := 800) g14 236 5 rfl
    have b19 := gi_b (lo := 0) (hi := 4) g14 236 6 rfl
    have b20 := gi_b (lo := 0) (hi := 999) g14 236 7 rfl
    have b21 := gi_b (lo := -9223372036854775808) (hi := 9223372036854775807) g14 236 12 rfl
    have tkk22 := p14_2.2.2
    exact k h14 g14 F16 (show (h 236 4) ≤ (h14 236 4) by omega) (show (h14 236 4) ≤ (h 236 3) by omega) (show ((h14 236 4) = tk_nx tB tn tg ∧ (h14 236 5) = tk_st tB tn tg ∧ TKk tB tn tg ((h14 236 6)) ((h14 236 7)) ((h14 236 12))) by first | assumption | exact ⟨by omega, by omega, TKk.mv (by assumption) (by omega) (by omega) (by omega)⟩) (show tg ≤ tk_nx tB tn tg ∧ tk_nx tB tn tg ≤ tn by omega)
  ·
    refine wi_aload_n (i := 0) (x := 236) (nx := 14) (r1 := 0) (r2 := 0) (r3 := 0) rfl rfl ?_
    refine wr_gr (k0 := 236) (x := 237) (nx := 17) (r1 := 11) (r2 := 1) (r3 := 0) rfl rfl (by decide) rfl ⟨rfl, rfl⟩ rfl ?_
    refine wi_aload_n (i := 0) (x := 236) (nx := 18) (r1 := 0) (r2 := 0) (r3 := 0) rfl rfl ?_
    refine wr_gi0 (k0 := 236) (x := h3 236 4) (nx := 21) (r1 := 11) (r2 := 4) (r3 := 0) rfl rfl (by decide) rfl ⟨rfl, rfl⟩ rfl rfl ?_
    refine wi_iload_n (i := 1) (e := 0) (nx := 22) (r1 := 0) (r2 := 0) (r3 := 0) rfl rfl ?_
    refine wr_add (nx := 23) (r1 := 0) (r2 := 0) (r3 := 0) rfl (fun e9 (fe9 : e9 = (h3 236 4) + 0) => ?_)
    obtain ⟨i10, ei10⟩ : ∃ q : Nat, e9 = (q : Int) := ⟨(e9).toNat, by omega⟩
    have b11 := gi_b (lo := 0) (hi := 255) g 237 i10 rfl
    have ry12 := xq0.1 i10 (by omega)
    refine wr_ia (k0 := 237) (a := e9) (f := i10) (x := h 237 i10) (nx := 24) (r1 := 0) (r2 := 0) (r3 := 0) rfl (by decide) rfl (by omega) (by omega) (by decide) (u3 237 i10 (fn_a (by decide) fn_0)) ?_
    refine wi_goto (nx := 27) (r1 := 28) (r2 := 0) (r3 := 0) rfl ?_
    refine wi_ireturn (nx := 29) (r1 := 0) (r2 := 0) (r3 := 0) rfl rfl ?_
    refine wk_i ?_
    refine wi_bipush (n := 32) (nx := 7) (r1 := 0) (r2 := 0) (r3 := 0) rfl (by decide) ?_
    refine wi_icmp (cd := .eq) (nx := 10) (r1 := 20) (r2 := 0) (r3 := 0) rfl (by omega) (by omega) (fun (q13 : (h 237 i10) = 32) => ?_) (fun (q13 : ¬ ((h 237 i10) = 32)) => ?_)
    ·
      refine wi_aload_n (i := 0) (x := 236) (nx := 21) (r1 := 0) (r2 := 0) (r3 := 0) rfl rfl ?_
      refine wi_dup (nx := 22) (r1 := 0) (r2 := 0) (r3 := 0) rfl rfl ?_
      refine wr_gi0 (k0 := 236) (x := h3 236 4) (nx := 25) (r1 := 11) (r2 := 4) (r3 := 0) rfl rfl (by decide) rfl ⟨rfl, rfl⟩ rfl rfl ?_
      refine wi_iconst (n := 1) (nx := 26) (r1 := 0) (r2 := 0) (r3 := 0) rfl ?_
      refine wr_add (nx := 27) (r1 := 0) (r2 := 0) (r3 := 0) rfl (fun e14 (fe14 : e14 = (h3 236 4) + 1) => ?_)
      refine wr_pf0 (k0 := 236) (x := e14) (bl := 0) (bh := 800) (nx := 30) (r1 := 11) (r2 := 4) (r3 := 0) rfl (by decide) rfl ⟨rfl, rfl⟩ rfl rfl g3 rfl (by omega) (fun h15 g15 w15 u15 => ?_)
      have F16 := F4.then rfl u15
      have F17 := u3.then rfl u15
      refine wi_goto (nx := 33) (r1 := 0) (r2 := 0) (r3 := 0) rfl ?_
      have e18 : h15 236 4 = e14 := w15
      have e19 : h15 236 3 = h 236 3 := ((u15 236 3 rfl).trans (u3 236 3 rfl))
      exact I3 h15 ⟨g15, F16, F17, (show ((h15 236 4) ≤ (h15 236 3)) ∧ (tg ≤ (h15 236 4)) by omega), (tk_stb X3_0 (by omega) (by omega) (show h15 236 4 = h3 236 4 + 1 by omega) (show h3 236 4 = (i10 : Int) by omega) (rfl : tB i10 = tB i10) (by omega))⟩ (show ((h15 236 3) - (h15 236 4)).toNat < ((h3 236 3) - (h3 236 4)).toNat by omega)
    ·
      refine wi_aload_n (i := 0) (x := 236) (nx := 11) (r1 := 0) (r2 := 0) (r3 := 0) rfl rfl ?_
      refine wi_iconst (n := 0) (nx := 12) (r1 := 0) (r2 := 0) (r3 := 0) rfl ?_
      refine wr_V (k0 := 236) (rest := []) (as := [.ref 236, vi 0]) (nx := 15) (r1 := 216) (r2 := 1) (r3 := 11) rfl rfl rfl (of_decide_eq_true rfl) rfl rfl (by decide) rfl rfl (of_decide_eq_true rfl) (of_decide_eq_true rfl) ?_
      refine wi_aload_n (i := 0) (x := 236) (nx := 1) (r1 := 0) (r2 := 0) (r3 := 0) rfl rfl ?_
      refine wr_gi0 (k0 := 236) (x := h3 236 4) (nx := 4) (r1 := 11) (r2 := 4) (r3 := 0) rfl rfl (by decide) rfl ⟨rfl, rfl⟩ rfl rfl ?_
      refine wi_iload_n (i := 1) (e := 0) (nx := 5) (r1 := 0) (r2 := 0) (r3 := 0) rfl rfl ?_
      refine wr_add (nx := 6) (r1 := 0) (r2 := 0) (r3 := 0) rfl (fun e14 (fe14 : e14 = (h3 236 4) + 0) => ?_)
      refine wi_aload_n (i := 0) (x := 236) (nx := 7) (r1 := 0) (r2 := 0) (r3 := 0) rfl rfl ?_
      refine wr_gi0 (k0 := 236) (x := h 236 3) (nx := 10) (r1 := 11) (r2 := 3) (r3 := 0) rfl rfl (by decide) rfl ⟨rfl, rfl⟩ rfl (u3 236 3 rfl) ?_
      refine wi_icmp (cd := .ge) (nx := 13) (r1 := 27) (r2 := 0) (r3 := 0) rfl (by omega) (by omega) (fun (q15 : (h 236 3) ≤ e14) => by exfalso; omega) (fun (q15 : ¬ ((h 236 3) ≤ e14)) => ?_)
      refine wi_aload_n (i := 0) (x := 236) (nx := 14) (r1 := 0) (r2 := 0) (r3 := 0) rfl rfl ?_
      refine wr_gr (k0 := 236) (x := 237) (nx := 17) (r1 := 11) (r2 := 1) (r3 := 0) rfl rfl (by decide) rfl ⟨rfl, rfl⟩ rfl ?_
      refine wi_aload_n (i := 0) (x := 236) (nx := 18) (r1 := 0) (r2 := 0) (r3 := 0) rfl rfl ?_
      refine wr_gi0 (k0 := 236) (x := h3 236 4) (nx := 21) (r1 := 11) (r2 := 4) (r3 := 0) rfl rfl (by decide) rfl ⟨rfl, rfl⟩ rfl rfl ?_
      refine wi_iload_n (i := 1) (e := 0) (nx := 22) (r1 := 0) (r2 := 0) (r3 := 0) rfl rfl ?_
      refine wr_add (nx := 23) (r1 := 0) (r2 := 0) (r3 := 0) rfl (fun e16 (fe16 : e16 = (h3 236 4) + 0) => ?_)
      refine wr_ia (k0 := 237) (a := e16) (f := i10) (x := h 237 i10) (nx := 24) (r1 := 0) (r2 := 0) (r3 := 0) rfl (by decide) rfl (by omega) (by omega) (by decide) (u3 237 i10 (fn_a (by decide) fn_0)) ?_
      refine wi_goto (nx := 27) (r1 := 28) (r2 := 0) (r3 := 0) rfl ?_
      refine wi_ireturn (nx := 29) (r1 := 0) (r2 := 0) (r3 := 0) rfl rfl ?_
      refine wk_i ?_
      refine wi_bipush (n := 10) (nx := 17) (r1 := 0) (r2 := 0) (r3 := 0) rfl (by decide) ?_
      refine wi_icmp (cd := .ne) (nx := 20) (r1 := 33) (r2 := 0) (r3 := 0) rfl (by omega) (by omega) (fun (q17 : (h 237 i10) ≠ 10) => ?_) (fun (q17 : ¬ ((h 237 i10) ≠ 10)) => ?_)
      ·
        have tS18 : tk_st tB tn tg = h3 236 4 := tk_ste2 X3_0 (by omega) (show h3 236 4 = (i10 : Int) by omega) (rfl : tB i10 = tB i10) (by omega)
        have rb20 := RefB.fr u3 rfl xq0
        refine ct_215_p33_236 hcr  g3   (show (h3 236 4) ≤ (h3 236 3) by omega) (show tk_st tB tn tg = (h3 236 4) by omega) (show 0 ≤ tg by omega) (show tg ≤ tn by omega) (show tg ≤ (h3 236 4) by omega) rb20 (fun h19 g19 u19 (p19_0 : (h3 236 4) ≤ (h19 236 4)) (p19_1 : (h19 236 4) ≤ (h3 236 3)) (p19_2 : ((h19 236 4) = tk_nx tB tn tg ∧ (h19 236 5) = tk_st tB tn tg ∧ TKk tB tn tg ((h19 236 6)) ((h19 236 7)) ((h19 236 12)))) (p19_3 : tg ≤ tk_nx tB tn tg ∧ tk_nx tB tn tg ≤ tn) => ?_)
        have F21 := F4.then (by decide +kernel) u19
        have b22 := gi_b (lo := 0) (hi := 800) g19 236 4 rfl
        have b23 := gi_b (lo := 0) (hi := 800) g19 236 5 rfl
        have b24 := gi_b (lo := 0) (hi := 4) g19 236 6 rfl
        have b25 := gi_b (lo := 0) (hi := 999) g19 236 7 rfl
        have b26 := gi_b (lo := -9223372036854775808) (hi := 9223372036854775807) g19 236 12 rfl
        have tkk27 := p19_2.2.2
        exact k h19 g19 F21 (show (h 236 4) ≤ (h19 236 4) by omega) (show (h19 236 4) ≤ (h 236 3) by omega) (show ((h19 236 4) = tk_nx tB tn tg ∧ (h19 236 5) = tk_st tB tn tg ∧ TKk tB tn tg ((h19 236 6)) ((h19 236 7)) ((h19 236 12))) by first | assumption | exact ⟨by omega, by omega, TKk.mv (by assumption) (by omega) (by omega) (by omega)⟩) (show tg ≤ tk_nx tB tn tg ∧ tk_nx tB tn tg ≤ tn by omega)
      ·
        refine wi_aload_n (i := 0) (x := 236) (nx := 21) (r1 := 0) (r2 := 0) (r3 := 0) rfl rfl ?_
        refine wi_dup (nx := 22) (r1 := 0) (r2 := 0) (r3 := 0) rfl rfl ?_
        refine wr_gi0 (k0 := 236) (x := h3 236 4) (nx := 25) (r1 := 11) (r2 := 4) (r3 := 0) rfl rfl (by decide) rfl ⟨rfl, rfl⟩ rfl rfl ?_
        refine wi_iconst (n := 1) (nx := 26) (r1 := 0) (r2 := 0) (r3 := 0) rfl ?_
        refine wr_add (nx := 27) (r1 := 0) (r2 := 0) (r3 := 0) rfl (fun e18 (fe18 : e18 = (h3 236 4) + 1) => ?_)
        refine wr_pf0 (k0 := 236) (x := e18) (bl := 0) (bh := 800) (nx := 30) (r1 := 11) (r2 := 4) (r3 := 0) rfl (by decide) rfl ⟨rfl, rfl⟩ rfl rfl g3 rfl (by omega) (fun h19 g19 w19 u19 => ?_)
        have F20 := F4.then rfl u19
        have F21 := u3.then rfl u19
        refine wi_goto (nx := 33) (r1 := 0) (r2 := 0) (r3 := 0) rfl ?_
        have e22 : h19 236 4 = e18 := w19
        have e23 : h19 236 3 = h 236 3 := ((u19 236 3 rfl).trans (u3 236 3 rfl))
        exact I3 h19 ⟨g19, F20, F21, (show ((h19 236 4) ≤ (h19 236 3)) ∧ (tg ≤ (h19 236 4)) by omega), (tk_stb X3_0 (by omega) (by omega) (show h19 236 4 = h3 236 4 + 1 by omega) (show h3 236 4 = (i10 : Int) by omega) (rfl : tB i10 = tB i10) (by omega))⟩ (show ((h19 236 3) - (h19 236 4)).toNat < ((h3 236 3) - (h3 236 4)).toNat by omega)
-- method 214: Model.beginsText()V
set_option maxRecDepth 100000 in
set_option maxHeartbeats 100000000 in
theorem ct_214_236 {L : Nat} {xs : Nat → Int32} {d b c : Nat} {h : hp} {cr : Nat → Nat → Option Nat} {Q : hp_Q} (hcr : CR cr)  {tB : Nat → Int} {tn  : Int} (g : GI h)    (xq0 : RB0 tB tn h) (k : ∀ (h2 : hp) , GI h2 → FR [(236, 236, some (2, 2)), (236, 236, some (3, 3)), (236, 236, some (4, 4)), (236, 236, some (5, 5)), (236, 236, some (6, 6)), (236, 236, some (7, 7)), (236, 236, some (8, 8)), (236, 236, some (9, 9)), (236, 236, some (12, 12))] h h2 → (h2 236 8 = 0) → (h2 236 4 ≤ h2 236 3) → (h2 236 2 = 0) → (h2 236 9 = -1) → ((h2 236 4 = tk_nx tB tn 0 ∧ h2 236 5 = tk_st tB tn 0 ∧ TKk tB tn 0 (h2 236 6) (h2 236 7) (h2 236 12))) → (0 ≤ tn ∧ tn ≤ 800) → (h2 236 3 = tn) → (RefB tB tn h2) → Q (.inl none) (hp_w h2 cr) b c) : wp (md_xa (L, xs)) (d + 2) 214 (0, [(0, .ref 236)], [], hp_w h cr, b, c) Q := by
  have F0 : FR [(236, 236, some (2, 2)), (236, 236, some (3, 3)), (236, 236, some (4, 4)), (236, 236, some (5, 5)), (236, 236, some (6, 6)), (236, 236, some (7, 7)), (236, 236, some (8, 8)), (236, 236, some (9, 9)), (236, 236, some (12, 12))] h h := FR.refl
  have tb_1 : h 236 2 = tn := xq0.2.1
  have tb_2 : 0 ≤ tn ∧ tn ≤ 800 := xq0.2.2
  refine wi_aload_n (i := 0) (x := 236) (nx := 1) (r1 := 0) (r2 := 0) (r3 := 0) rfl rfl ?_
  refine wi_aload_n (i := 0) (x := 236) (nx := 2) (r1 := 0) (r2 := 0) (r3 := 0) rfl rfl ?_
  have b1 := gi_b (lo := 0) (hi := 800) g 236 2 rfl
  refine wr_gi0 (k0 := 236) (x := h 236 2) (nx := 5) (r1 := 11) (r2 := 2) (r3 := 0) rfl rfl (by decide) rfl ⟨rfl, rfl⟩ rfl rfl ?_
  refine wr_pf0 (k0 := 236) (x := h 236 2) (bl := 0) (bh := 800) (nx := 8) (r1 := 11) (r2 := 3) (r3 := 0) rfl (by decide) rfl ⟨rfl, rfl⟩ rfl rfl g rfl (by omega) (fun h2 g2 w2 u2 => ?_)
  have F3 := F0.then rfl u2
  refine wi_aload_n (i := 0) (x := 236) (nx := 9) (r1 := 0) (r2 := 0) (r3 := 0) rfl rfl ?_
  refine wi_iconst (n := 0) (nx := 10) (r1 := 0) (r2 := 0) (r3 := 0) rfl ?_
  refine wr_pf0 (k0 := 236) (x := 0) (bl := 0) (bh := 800) (nx := 13) (r1 := 11) (r2 := 2) (r3 := 0) rfl (by decide) rfl ⟨rfl, rfl⟩ rfl rfl g2 rfl (by omega) (fun h4 g4 w4 u4 => ?_)
  have F5 := F3.then rfl u4
  refine wi_aload_n (i := 0) (x := 236) (nx := 14) (r1 := 0) (r2 := 0) (r3 := 0) rfl rfl ?_
  refine wi_iconst (n := 0) (nx := 15) (r1 := 0) (r2 := 0) (r3 := 0) rfl ?_
  refine wr_pf0 (k0 := 236) (x := 0) (bl := 0) (bh := 800) (nx := 18) (r1 := 11) (r2 := 4) (r3 := 0) rfl (by decide) rfl ⟨rfl, rfl⟩ rfl rfl g4 rfl (by omega) (fun h6 g6 w6 u6 => ?_)
  have F7 := F5.then rfl u6
  refine wi_aload_n (i := 0) (x := 236) (nx := 19) (r1 := 0) (r2 := 0) (r3 := 0) rfl rfl ?_
  refine wi_iconst (n := 0) (nx := 20) (r1 := 0) (r2 := 0) (r3 := 0) rfl ?_
  refine wr_pf0 (k0 := 236) (x := 0) (bl := 0) (bh := 5) (nx := 23) (r1 := 11) (r2 := 8) (r3 := 0) rfl (by decide) rfl ⟨rfl, rfl⟩ rfl rfl g6 rfl (by omega) (fun h8 g8 w8 u8 => ?_)
  have F9 := F7.then rfl u8
  refine wi_aload_n (i := 0) (x := 236) (nx := 24) (r1 := 0) (r2 := 0) (r3 := 0) rfl rfl ?_
  refine wi_iconst (n := (-1)) (nx := 25) (r1 := 0) (r2 := 0) (r3 := 0) rfl ?_
  refine wr_pf0 (k0 := 236) (x := -1) (bl := -2147483648) (bh := 2147483647) (nx := 28) (r1 := 11) (r2 := 9) (r3 := 0) rfl (by decide) rfl ⟨rfl, rfl⟩ rfl rfl g8 rfl (by omega) (fun h10 g10 w10 u10 => ?_)
  have F11 := F9.then rfl u10
  have e12 : h10 236 3 = h 236 2 := ((u10 236 3 rfl).trans ((u8 236 3 rfl).trans ((u6 236 3 rfl).trans ((u4 236 3 rfl).trans w2))))
  have rb13 : RefB tB tn h10 := RB0.go xq0 (fun i => ((u10 237 i (fn_a (by omega) fn_0)).trans ((u8 237 i (fn_a (by omega) fn_0)).trans ((u6 237 i (fn_a (by omega) fn_0)).trans ((u4 237 i (fn_a (by omega) fn_0)).trans (u2 237 i (fn_a (by omega) fn_0))))))) (show h10 236 3 = tn by omega)
  refine wi_aload_n (i := 0) (x := 236) (nx := 29) (r1 := 0) (r2 := 0) (r3 := 0) rfl rfl ?_
  refine wr_V (k0 := 236) (rest := []) (as := [.ref 236]) (nx := 32) (r1 := 215) (r2 := 0) (r3 := 11) rfl rfl rfl (of_decide_eq_true rfl) rfl rfl (by decide) rfl rfl (of_decide_eq_true rfl) (of_decide_eq_true rfl) ?_
  have e15 : h10 236 4 = 0 := ((u10 236 4 rfl).trans ((u8 236 4 rfl).trans w6))
  refine ct_215_236 hcr  g10   (show (h10 236 4) ≤ (h10 236 3) by omega) (show (h10 236 4) = 0 by omega) (show 0 ≤ 0 by omega) (show 0 ≤ tn by omega) rb13 (fun h14 g14 u14 (p14_0 : (h10 236 4) ≤ (h14 236 4)) (p14_1 : (h14 236 4) ≤ (h10 236 3)) (p14_2 : ((h14 236 4) = tk_nx tB tn 0 ∧ (h14 236 5) = tk_st tB tn 0 ∧ TKk tB tn 0 ((h14 236 6)) ((h14 236 7)) ((h14 236 12)))) (p14_3 : 0 ≤ tk_nx tB tn 0 ∧ tk_nx tB tn 0 ≤ tn) => ?_)
  have F16 := F11.then (by decide +kernel) u14
  have b17 := gi_b (lo := 0) (hi := 800) g14 236 4 rfl
  have b18 := gi_b (lo := 0) (hi := 800) g14 236 5 rfl
  have b19 := gi_b (lo := 0) (hi := 4) g14 236 6 rfl
  have b20 := gi_b (lo := 0) (hi := 999) g14 236 7 rfl
  have b21 := gi_b (lo := -9223372036854775808) (hi := 9223372036854775807) g14 236 12 rfl
  have tkk22 := p14_2.2.2
  have tN23 := @tk_nx_b tB tn 0 (by omega) (by omega)
  refine wk_n ?_
  refine wi_return (nx := 33) (r1 := 0) (r2 := 0) (r3 := 0) rfl rfl ?_
  have e24 : h14 236 8 = 0 := ((u14 236 8 rfl).trans ((u10 236 8 rfl).trans w8))
  have e25 : h14 236 3 = h 236 2 := ((u14 236 3 rfl).trans ((u10 236 3 rfl).trans ((u8 236 3 rfl).trans ((u6 236 3 rfl).trans ((u4 236 3 rfl).trans w2)))))
  have e26 : h14 236 2 = 0 := ((u14 236 2 rfl).trans ((u10 236 2 rfl).trans ((u8 236 2 rfl).trans ((u6 236 2 rfl).trans w4))))
  have e27 : h14 236 9 = -1 := ((u14 236 9 rfl).trans w10)
  have rb28 := RefB.fr u14 rfl rb13
  exact k h14 g14 F16 (show (h14 236 8) = 0 by omega) (show (h14 236 4) ≤ (h14 236 3) by omega) (show (h14 236 2) = 0 by omega) (show (h14 236 9) = -1 by omega) (show ((h14 236 4) = tk_nx tB tn 0 ∧ (h14 236 5) = tk_st tB tn 0 ∧ TKk tB tn 0 ((h14 236 6)) ((h14 236 7)) ((h14 236 12))) by first | assumption | exact ⟨by omega, by omega, TKk.mv (by assumption) (by omega) (by omega) (by omega)⟩) (show 0 ≤ tn ∧ tn ≤ 800 by omega) (show (h14 236 3) = tn by omega) rb28
