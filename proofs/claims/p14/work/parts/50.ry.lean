-- method 319: Model.waitingChanges()I
set_option maxRecDepth 100000 in
set_option maxHeartbeats 100000000 in
theorem ct_319_236 {L : Nat} {xs : Nat → Int32} {d b c : Nat} {h : hp} {cr : Nat → Nat → Option Nat} {Q : hp_Q} (hcr : CR cr)  (g : GI h)    (k : ∀ (h2 : hp) (z0 : Int) , GI h2 → FR [(236, 236, some (0, 0))] h h2 → (-2147483648 ≤ z0 ∧ z0 ≤ 2147483647) → Q (.inl (some (vi z0))) (hp_w h2 cr) b c) : wp (md_xa (L, xs)) (d + 1) 319 (0, [(0, .ref 236)], [], hp_w h cr, b, c) Q := by
  have F0 : FR [(236, 236, some (0, 0))] h h := FR.refl
  refine wi_aload_n (i := 0) (x := 236) (nx := 1) (r1 := 0) (r2 := 0) (r3 := 0) rfl rfl ?_
  refine wi_iconst (n := 0) (nx := 2) (r1 := 0) (r2 := 0) (r3 := 0) rfl ?_
  refine wr_pf0 (k0 := 236) (x := 0) (bl := 0) (bh := 2) (nx := 5) (r1 := 11) (r2 := 0) (r3 := 0) rfl (by decide) rfl ⟨rfl, rfl⟩ rfl rfl g rfl (by omega) (fun h1 g1 w1 u1 => ?_)
  have F2 := F0.then rfl u1
  refine wi_iconst (n := 0) (nx := 6) (r1 := 0) (r2 := 0) (r3 := 0) rfl ?_
  refine wi_istore_n (i := 1) (e := 0) (lo2 := [(1, vi 0), (0, .ref 236)]) (nx := 7) (r1 := 0) (r2 := 0) (r3 := 0) rfl rfl ?_
  refine wi_iconst (n := 1) (nx := 8) (r1 := 0) (r2 := 0) (r3 := 0) rfl ?_
  refine wi_istore_n (i := 2) (e := 1) (lo2 := [(2, vi 1), (1, vi 0), (0, .ref 236)]) (nx := 9) (r1 := 0) (r2 := 0) (r3 := 0) rfl rfl ?_
  refine wp.lo (lo := [(0, .ref 236), (1, vi 0), (2, vi 1)]) ⟨rfl, rfl, rfl, trivial⟩ rfl ?_
  refine wl_2 (fun x3 x4 h5 => h1 = h5 ∧ ((-2147483648 ≤ x3 ∧ x3 ≤ 2147483647) ∧ (1 ≤ x4 ∧ x4 ≤ 12))) (fun x3 x4 h5 => ((12 : Int) + 1 - x4).toNat) (fun x3 x4 h5 => (9, [(0, .ref 236), (1, vi x3), (2, vi x4)], [], hp_w h5 cr, b, c)) ?_ 0 1 h1 ⟨rfl, (show (-2147483648 ≤ 0 ∧ 0 ≤ 2147483647) ∧ (1 ≤ 1 ∧ 1 ≤ 12) by omega)⟩
  intro x3 x4 h5 ⟨e5, f5⟩ I5
  subst e5
  refine wi_iload_n (i := 2) (e := x4) (nx := 10) (r1 := 0) (r2 := 0) (r3 := 0) rfl rfl ?_
  refine wi_aload_n (i := 0) (x := 236) (nx := 11) (r1 := 0) (r2 := 0) (r3 := 0) rfl rfl ?_
  refine wr_V (k0 := 236) (rest := [vi x4]) (as := [.ref 236]) (nx := 14) (r1 := 320) (r2 := 0) (r3 := 11) rfl rfl rfl (of_decide_eq_true rfl) rfl rfl (by decide) rfl rfl (of_decide_eq_true rfl) (of_decide_eq_true rfl) ?_
  refine wi_aload_n (i := 0) (x := 236) (nx := 1) (r1 := 0) (r2 := 0) (r3 := 0) rfl rfl ?_
  refine wr_gr (k0 := 236) (x := 238) (nx := 4) (r1 := 11) (r2 := 13) (r3 := 0) rfl rfl (by decide) rfl ⟨rfl, rfl⟩ rfl ?_
  refine wi_iconst (n := 2) (nx := 5) (r1 := 0) (r2 := 0) (r3 := 0) rfl ?_
  have b7 := gi_b (lo := 0) (hi := 12) g 238 2 rfl
  refine wr_ia (k0 := 238) (a := 2) (f := 2) (x := h 238 2) (nx := 6) (r1 := 0) (r2 := 0) (r3 := 0) rfl (by decide) rfl (by omega) (by omega) (by decide) (u1 238 2 rfl) ?_
  refine wi_aload_n (i := 0) (x := 236) (nx := 7) (r1 := 0) (r2 := 0) (r3 := 0) rfl rfl ?_
  refine wr_gr (k0 := 236) (x := 238) (nx := 10) (r1 := 11) (r2 := 13) (r3 := 0) rfl rfl (by decide) rfl ⟨rfl, rfl⟩ rfl ?_
  refine wi_bipush (n := 73) (nx := 12) (r1 := 0) (r2 := 0) (r3 := 0) rfl (by decide) ?_
  have b8 := gi_b (lo := 0) (hi := 12) g 238 73 rfl
  refine wr_ia (k0 := 238) (a := 73) (f := 73) (x := h 238 73) (nx := 13) (r1 := 0) (r2 := 0) (r3 := 0) rfl (by decide) rfl (by omega) (by omega) (by decide) (u1 238 73 rfl) ?_
  refine wr_sub (nx := 14) (r1 := 0) (r2 := 0) (r3 := 0) rfl (fun e9 (fe9 : e9 = (h 238 2) - (h 238 73)) => ?_)
  refine wi_ireturn (nx := 15) (r1 := 0) (r2 := 0) (r3 := 0) rfl rfl ?_
  refine wk_i ?_
  refine wi_icmp (cd := .ge) (nx := 17) (r1 := 49) (r2 := 0) (r3 := 0) rfl (by omega) (by omega) (fun (q10 : e9 ≤ x4) => ?_) (fun (q10 : ¬ (e9 ≤ x4)) => ?_)
  ·
    refine wi_iload_n (i := 1) (e := x3) (nx := 50) (r1 := 0) (r2 := 0) (r3 := 0) rfl rfl ?_
    refine wi_ireturn (nx := 51) (r1 := 0) (r2 := 0) (r3 := 0) rfl rfl ?_
    exact k h1 x3 g1 F2 (by omega)
  ·
    refine wi_iload_n (i := 1) (e := x3) (nx := 18) (r1 := 0) (r2 := 0) (r3 := 0) rfl rfl ?_
    refine wi_aload_n (i := 0) (x := 236) (nx := 19) (r1 := 0) (r2 := 0) (r3 := 0) rfl rfl ?_
    refine wi_iload_n (i := 2) (e := x4) (nx := 20) (r1 := 0) (r2 := 0) (r3 := 0) rfl rfl ?_
    refine wr_V (k0 := 236) (rest := [vi x3]) (as := [.ref 236, vi x4]) (nx := 23) (r1 := 321) (r2 := 1) (r3 := 11) rfl rfl rfl (of_decide_eq_true rfl) rfl rfl (by decide) rfl rfl (of_decide_eq_true rfl) (of_decide_eq_true rfl) ?_
    refine wi_aload_n (i := 0) (x := 236) (nx := 1) (r1 := 0) (r2 := 0) (r3 := 0) rfl rfl ?_
    refine wr_gr (k0 := 236) (x := 238) (nx := 4) (r1 := 11) (r2 := 13) (r3 := 0) rfl rfl (by decide) rfl ⟨rfl, rfl⟩ rfl ?_
    refine wi_bipush (n := 31) (nx := 6) (r1 := 0) (r2 := 0) (r3 := 0) rfl (by decide) ?_
    refine wi_aload_n (i := 0) (x := 236) (nx := 7) (r1 := 0) (r2 := 0) (r3 := 0) rfl rfl ?_
    refine wr_gr (k0 := 236) (x := 238) (nx := 10) (r1 := 11) (r2 := 13) (r3 := 0) rfl rfl (by decide) rfl ⟨rfl, rfl⟩ rfl ?_
    refine wi_bipush (n := 73) (nx := 12) (r1 := 0) (r2 := 0) (r3 := 0) rfl (by decide) ?_
    refine wr_ia (k0 := 238) (a := 73) (f := 73) (x := h 238 73) (nx := 13) (r1 := 0) (r2 := 0) (r3 := 0) rfl (by decide) rfl (by omega) (by omega) (by decide) (u1 238 73 rfl) ?_
    refine wr_add (nx := 14) (r1 := 0) (r2 := 0) (r3 := 0) rfl (fun e11 (fe11 : e11 = 31 + (h 238 73)) => ?_)
    refine wi_iload_n (i := 1) (e := x4) (nx := 15) (r1 := 0) (r2 := 0) (r3 := 0) rfl rfl ?_
    refine wr_add (nx := 16) (r1 := 0) (r2 := 0) (r3 := 0) rfl (fun e12 (fe12 : e12 = e11 + x4) => ?_)
    obtain ⟨i13, ei13⟩ : ∃ q : Nat, e12 = (q : Int) := ⟨(e12).toNat, by omega⟩
    have b14 := gi_b (lo := 0) (hi := 4) g 238 i13 (gi_rg 32 11 (fun _ => rfl) (by decide +kernel) (by omega))
    refine wr_ia (k0 := 238) (a := e12) (f := i13) (x := h 238 i13) (nx := 17) (r1 := 0) (r2 := 0) (r3 := 0) rfl (by decide) rfl (by omega) (by omega) (by decide) (u1 238 i13 (fn_a (by omega) fn_0)) ?_
    refine wi_ireturn (nx := 18) (r1 := 0) (r2 := 0) (r3 := 0) rfl rfl ?_
    refine wk_i ?_
    refine wi_aload_n (i := 0) (x := 236) (nx := 24) (r1 := 0) (r2 := 0) (r3 := 0) rfl rfl ?_
    refine wi_iload_n (i := 2) (e := x4) (nx := 25) (r1 := 0) (r2 := 0) (r3 := 0) rfl rfl ?_
    refine wi_iconst (n := 1) (nx := 26) (r1 := 0) (r2 := 0) (r3 := 0) rfl ?_
    refine wr_sub (nx := 27) (r1 := 0) (r2 := 0) (r3 := 0) rfl (fun e15 (fe15 : e15 = x4 - 1) => ?_)
    refine wr_V (k0 := 236) (rest := [vi (h 238 i13), vi x3]) (as := [.ref 236, vi e15]) (nx := 30) (r1 := 321) (r2 := 1) (r3 := 11) rfl rfl rfl (of_decide_eq_true rfl) rfl rfl (by decide) rfl rfl (of_decide_eq_true rfl) (of_decide_eq_true rfl) ?_
    refine wi_aload_n (i := 0) (x := 236) (nx := 1) (r1 := 0) (r2 := 0) (r3 := 0) rfl rfl ?_
    refine wr_gr (k0 := 236) (x := 238) (nx := 4) (r1 := 11) (r2 := 13) (r3 := 0) rfl rfl (by decide) rfl ⟨rfl, rfl⟩ rfl ?_
    refine wi_bipush (n := 31) (nx := 6) (r1 := 0) (r2 := 0) (r3 := 0) rfl (by decide) ?_
    refine wi_aload_n (i := 0) (x := 236) (nx := 7) (r1 := 0) (r2 := 0) (r3 := 0) rfl rfl ?_
    refine wr_gr (k0 := 236) (x := 238) (nx := 10) (r1 := 11) (r2 := 13) (r3 := 0) rfl rfl (by decide) rfl ⟨rfl, rfl⟩ rfl ?_
    refine wi_bipush (n := 73) (nx := 12) (r1 := 0) (r2 := 0) (r3 := 0) rfl (by decide) ?_
    refine wr_ia (k0 := 238) (a := 73) (f := 73) (x := h 238 73) (nx := 13) (r1 := 0) (r2 := 0) (r3 := 0) rfl (by decide) rfl (by omega) (by omega) (by decide) (u1 238 73 rfl) ?_
    refine wr_add (nx := 14) (r1 := 0) (r2 := 0) (r3 := 0) rfl (fun e16 (fe16 : e16 = 31 + (h 238 73)) => ?_)
    refine wi_iload_n (i := 1) (e := e15) (nx := 15) (r1 := 0) (r2 := 0) (r3 := 0) rfl rfl ?_
    refine wr_add (nx := 16) (r1 := 0) (r2 := 0) (r3 := 0) rfl (fun e17 (fe17 : e17 = e16 + e15) => ?_)
    obtain ⟨i18, ei18⟩ : ∃ q : Nat, e17 = (q : Int) := ⟨(e17).toNat, by omega⟩
    have b19 := gi_b (lo := 0) (hi := 4) g 238 i18 (gi_rg 31 11 (fun _ => rfl) (by decide +kernel) (by omega))
    refine wr_ia (k0 := 238) (a := e17) (f := i18) (x := h 238 i18) (nx := 17) (r1 := 0) (r2 := 0) (r3 := 0) rfl (by decide) rfl (by omega) (by omega) (by decide) (u1 238 i18 (fn_a (by omega) fn_0)) ?_
    refine wi_ireturn (nx := 18) (r1 := 0) (r2 := 0) (r3 := 0) rfl rfl ?_
    refine wk_i ?_
    refine wi_icmp (cd := .eq) (nx := 33) (r1 := 37) (r2 := 0) (r3 := 0) rfl (by omega) (by omega) (fun (q20 : (h 238 i13) = (h 238 i18)) => ?_) (fun (q20 : ¬ ((h 238 i13) = (h 238 i18))) => ?_)
    ·
      refine wi_iconst (n := 0) (nx := 38) (r1 := 0) (r2 := 0) (r3 := 0) rfl ?_
      refine wi_S (rest := [vi x3]) (as := [vi 0]) (nx := 41) (r1 := 206) (r2 := 17) (r3 := 0) rfl rfl rfl (of_decide_eq_true rfl) rfl rfl (of_decide_eq_true rfl) (of_decide_eq_true rfl) ?_
      refine wi_iload_n (i := 0) (e := 0) (nx := 1) (r1 := 0) (r2 := 0) (r3 := 0) rfl rfl ?_
      refine wi_if (cd := .eq) (nx := 4) (r1 := 8) (r2 := 0) (r3 := 0) rfl (by omega) (fun (q21 : 0 = 0) => ?_) (fun (q21 : ¬ (0 = 0)) => by exfalso; omega)
      refine wi_iconst (n := 0) (nx := 9) (r1 := 0) (r2 := 0) (r3 := 0) rfl ?_
      refine wi_ireturn (nx := 10) (r1 := 0) (r2 := 0) (r3 := 0) rfl rfl ?_
      refine wk_i ?_
      refine wr_add (nx := 42) (r1 := 0) (r2 := 0) (r3 := 0) rfl (fun e22 (fe22 : e22 = x3 + 0) => ?_)
      refine wi_istore_n (i := 1) (e := e22) (lo2 := [(1, vi e22), (0, .ref 236), (2, vi x4)]) (nx := 43) (r1 := 0) (r2 := 0) (r3 := 0) rfl rfl ?_
      refine wr_iinc (i := 2) (n := 1) (v := x4) (fun e23 => [(2, vi e23), (1, vi e22), (0, .ref 236)]) (nx := 46) (r1 := 0) (r2 := 0) (r3 := 0) rfl rfl (fun _ => rfl) (fun e23 (fe23 : e23 = x4 + 1) => ?_)
      refine wi_goto (nx := 49) (r1 := 9) (r2 := 0) (r3 := 0) rfl ?_
      refine wp.lo (lo := [(0, .ref 236), (1, vi e22), (2, vi e23)]) ⟨rfl, rfl, rfl, trivial⟩ rfl ?_
      exact I5 e22 e23 h1 ⟨rfl, (show (-2147483648 ≤ e22 ∧ e22 ≤ 2147483647) ∧ (1 ≤ e23 ∧ e23 ≤ 12) by omega)⟩ (show ((12 : Int) + 1 - e23).toNat < ((12 : Int) + 1 - x4).toNat by omega)
    ·
      refine wi_iconst (n := 1) (nx := 34) (r1 := 0) (r2 := 0) (r3 := 0) rfl ?_
      refine wi_goto (nx := 37) (r1 := 38) (r2 := 0) (r3 := 0) rfl ?_
      refine wi_S (rest := [vi x3]) (as := [vi 1]) (nx := 41) (r1 := 206) (r2 := 17) (r3 := 0) rfl rfl rfl (of_decide_eq_true rfl) rfl rfl (of_decide_eq_true rfl) (of_decide_eq_true rfl) ?_
      refine wi_iload_n (i := 0) (e := 1) (nx := 1) (r1 := 0) (r2 := 0) (r3 := 0) rfl rfl ?_
      refine wi_if (cd := .eq) (nx := 4) (r1 := 8) (r2 := 0) (r3 := 0) rfl (by omega) (fun (q21 : 1 = 0) => by exfalso; omega) (fun (q21 : ¬ (1 = 0)) => ?_)
      refine wi_iconst (n := 1) (nx := 5) (r1 := 0) (r2 := 0) (r3 := 0) rfl ?_
      refine wi_goto (nx := 8) (r1 := 9) (r2 := 0) (r3 := 0) rfl ?_
      refine wi_ireturn (nx := 10) (r1 := 0) (r2 := 0) (r3 := 0) rfl rfl ?_
      refine wk_i ?_
      refine wr_addW (nx := 42) (r1 := 0) (r2 := 0) (r3 := 0) rfl (fun e22 (fe22 : -2147483648 ≤ e22 ∧ e22 ≤ 2147483647) => ?_)
      refine wi_istore_n (i := 1) (e := e22) (lo2 := [(1, vi e22), (0, .ref 236), (2, vi x4)]) (nx := 43) (r1 := 0) (r2 := 0) (r3 := 0) rfl rfl ?_
      refine wr_iinc (i := 2) (n := 1) (v := x4) (fun e23 => [(2, vi e23), (1, vi e22), (0, .ref 236)]) (nx := 46) (r1 := 0) (r2 := 0) (r3 := 0) rfl rfl (fun _ => rfl) (fun e23 (fe23 : e23 = x4 + 1) => ?_)
      refine wi_goto (nx := 49) (r1 := 9) (r2 := 0) (r3 := 0) rfl ?_
      refine wp.lo (lo := [(0, .ref 236), (1, vi e22), (2, vi e23)]) ⟨rfl, rfl, rfl, trivial⟩ rfl ?_
      exact I5 e22 e23 h1 ⟨rfl, (show (-2147483648 ≤ e22 ∧ e22 ≤ 2147483647) ∧ (1 ≤ e23 ∧ e23 ≤ 12) by omega)⟩ (show ((12 : Int) + 1 - e23).toNat < ((12 : Int) + 1 - x4).toNat by omega)
-- method 286: Model.waits()I
set_option maxRecDepth 100000 in
set_option maxHeartbeats 100000000 in
theorem ct_286_236 {L : Nat} {xs : Nat → Int32} {d b c : Nat} {h : hp} {cr : Nat → Nat → Option Nat} {Q : hp_Q} (hcr : CR cr)  (g : GI h)   (pp0 : h 238 98 + h 238 99 + h 238 100 + h 238 101 + h 238 102 + h 238 106 = h 238 73) (pp1 : h 238 73 ≤ h 238 2) (pp2 : h 238 119 ≤ h 238 67) (pp3 : h 238 69 ≤ h 238 5) (pp4 : h 238 2 ≤ 12 * h 238 5) (xq0 : GPS h) (xq1 : GQS h) (gp0 : GPH h) (k : ∀ (h2 : hp) (z0 : Int) , GI h2 → FR [(236, 236, some (0, 0)), (236, 236, some (22, 22)), (238, 238, some (67, 67)), (242, 242, some (0, 999)), (242, 242, some (1000, 1199))] h h2 → (-1 ≤ z0 ∧ z0 ≤ 9999) → (h2 238 98 + h2 238 99 + h2 238 100 + h2 238 101 + h2 238 102 + h2 238 106 = h2 238 73) → (h2 238 73 ≤ h2 238 2) → (h2 238 119 ≤ h2 238 67) → (h2 238 69 ≤ h2 238 5) → (h2 238 2 ≤ 12 * h2 238 5) → (GPS h2) → (GQS h2) → (GPH h2) → Q (.inl (some (vi z0))) (hp_w h2 cr) b c) : wp (md_xa (L, xs)) (d + 1) 286 (0, [(0, .ref 236)], [], hp_w h cr, b, c) Q := by
  have F0 : FR [(236, 236, some (0, 0)), (236, 236, some (22, 22)), (238, 238, some (67, 67)), (242, 242, some (0, 999)), (242, 242, some (1000, 1199))] h h := FR.refl
  have b1 := gi_b (lo := 0) (hi := 6) g 238 98 rfl
  have b2 := gi_b (lo := 0) (hi := 6) g 238 99 rfl
  have b3 := gi_b (lo := 0) (hi := 6) g 238 100 rfl
  have b4 := gi_b (lo := 0) (hi := 6) g 238 101 rfl
  have b5 := gi_b (lo := 0) (hi := 3) g 238 102 rfl
  have b6 := gi_b (lo := 0) (hi := 12) g 238 106 rfl
  have b7 := gi_b (lo := 0) (hi := 12) g 238 73 rfl
  have b8 := gi_b (lo := 0) (hi := 12) g 238 2 rfl
  have b9 := gi_b (lo := 0) (hi := 9999) g 238 119 rfl
  have b10 := gi_b (lo := 0) (hi := 9999) g 238 67 rfl
  have b11 := gi_b (lo := 0) (hi := 9) g 238 69 rfl
  have b12 := gi_b (lo := 0) (hi := 9) g 238 5 rfl
  refine wi_aload_n (i := 0) (x := 236) (nx := 1) (r1 := 0) (r2 := 0) (r3 := 0) rfl rfl ?_
  refine wi_iconst (n := 0) (nx := 2) (r1 := 0) (r2 := 0) (r3 := 0) rfl ?_
  refine wr_pf0 (k0 := 236) (x := 0) (bl := 0) (bh := 2) (nx := 5) (r1 := 11) (r2 := 0) (r3 := 0) rfl (by decide) rfl ⟨rfl, rfl⟩ rfl rfl g rfl (by omega) (fun h13 g13 w13 u13 => ?_)
  have F14 := F0.then rfl u13
  refine wi_aload_n (i := 0) (x := 236) (nx := 6) (r1 := 0) (r2 := 0) (r3 := 0) rfl rfl ?_
  refine wr_gr (k0 := 236) (x := 238) (nx := 9) (r1 := 11) (r2 := 13) (r3 := 0) rfl rfl (by decide) rfl ⟨rfl, rfl⟩ rfl ?_
  refine wi_bipush (n := 67) (nx := 11) (r1 := 0) (r2 := 0) (r3 := 0) rfl (by decide) ?_
  refine wr_ia (k0 := 238) (a := 67) (f := 67) (x := h 238 67) (nx := 12) (r1 := 0) (r2 := 0) (r3 := 0) rfl (by decide) rfl (by omega) (by omega) (by decide) (u13 238 67 rfl) ?_
  refine wi_sipush (n := 9999) (nx := 15) (r1 := 0) (r2 := 0) (r3 := 0) rfl (by decide) ?_
  refine wi_icmp (cd := .ne) (nx := 18) (r1 := 20) (r2 := 0) (r3 := 0) rfl (by omega) (by omega) (fun (q15 : (h 238 67) ≠ 9999) => ?_) (fun (q15 : ¬ ((h 238 67) ≠ 9999)) => ?_)
  ·
    refine wi_aload_n (i := 0) (x := 236) (nx := 21) (r1 := 0) (r2 := 0) (r3 := 0) rfl rfl ?_
    refine wr_V (k0 := 236) (rest := []) (as := [.ref 236]) (nx := 24) (r1 := 277) (r2 := 0) (r3 := 11) rfl rfl rfl (of_decide_eq_true rfl) rfl rfl (by decide) rfl rfl (of_decide_eq_true rfl) (of_decide_eq_true rfl) ?_
    have e17 : h13 238 98 = h 238 98 := (u13 238 98 rfl)
    have e18 : h13 238 99 = h 238 99 := (u13 238 99 rfl)
    have e19 : h13 238 100 = h 238 100 := (u13 238 100 rfl)
    have e20 : h13 238 101 = h 238 101 := (u13 238 101 rfl)
    have e21 : h13 238 102 = h 238 102 := (u13 238 102 rfl)
    have e22 : h13 238 106 = h 238 106 := (u13 238 106 rfl)
    have e23 : h13 238 73 = h 238 73 := (u13 238 73 rfl)
    have e24 : h13 238 2 = h 238 2 := (u13 238 2 rfl)
    have e25 : h13 238 119 = h 238 119 := (u13 238 119 rfl)
    have e26 : h13 238 67 = h 238 67 := (u13 238 67 rfl)
    have e27 : h13 238 69 = h 238 69 := (u13 238 69 rfl)
    have e28 : h13 238 5 = h 238 5 := (u13 238 5 rfl)
    have gs29 := GPS.fr u13 rfl xq0
    have gq30 := GQS.fr u13 rfl xq1
    have gp31 := GPH.fr u13 rfl gp0
    refine ct_277_236 hcr  g13   (show (h13 238 98) + (h13 238 99) + (h13 238 100) + (h13 238 101) + (h13 238 102) + (h13 238 106) = (h13 238 73) by omega) (show (h13 238 73) ≤ (h13 238 2) by omega) (show (h13 238 119) ≤ (h13 238 67) by omega) (show (h13 238 69) ≤ (h13 238 5) by omega) (show (h13 238 2) ≤ 12 * (h13 238 5) by omega) gs29 gq30 gp31 (fun h16 g16 u16 (p16_0 : 1 ≤ (h16 236 22)) y16_0 y16_1 y16_2 => ?_)
    have F32 := F14.then (by decide +kernel) u16
    have b33 := gi_b (lo := 0) (hi := 6) g16 236 22 rfl
    refine wk_n ?_
    refine wi_aload_n (i := 0) (x := 236) (nx := 25) (r1 := 0) (r2 := 0) (r3 := 0) rfl rfl ?_
    refine wr_gr (k0 := 236) (x := 238) (nx := 28) (r1 := 11) (r2 := 13) (r3 := 0) rfl rfl (by decide) rfl ⟨rfl, rfl⟩ rfl ?_
    refine wi_bipush (n := 67) (nx := 30) (r1 := 0) (r2 := 0) (r3 := 0) rfl (by decide) ?_
    refine wi_dup2 (nx := 31) (r1 := 0) (r2 := 0) (r3 := 0) rfl rfl rfl ?_
    refine wr_ia (k0 := 238) (a := 67) (f := 67) (x := h 238 67) (nx := 32) (r1 := 0) (r2 := 0) (r3 := 0) rfl (by decide) rfl (by omega) (by omega) (by decide) ((u16 238 67 rfl).trans (u13 238 67 rfl)) ?_
    refine wi_iconst (n := 1) (nx := 33) (r1 := 0) (r2 := 0) (r3 := 0) rfl ?_
    refine wr_add (nx := 34) (r1 := 0) (r2 := 0) (r3 := 0) rfl (fun e34 (fe34 : e34 = (h 238 67) + 1) => ?_)
    refine wr_is (k0 := 238) (a := 67) (f := 67) (x := e34) (bl := 0) (bh := 9999) (nx := 35) (r1 := 0) (r2 := 0) (r3 := 0) rfl (by decide) rfl (by omega) (by omega) (by decide) g16 rfl (by omega) (fun h35 g35 w35 u35 => ?_)
    have F36 := F32.then rfl u35
    refine wi_aload_n (i := 0) (x := 236) (nx := 36) (r1 := 0) (r2 := 0) (r3 := 0) rfl rfl ?_
    refine wr_gr (k0 := 236) (x := 238) (nx := 39) (r1 := 11) (r2 := 13) (r3 := 0) rfl rfl (by decide) rfl ⟨rfl, rfl⟩ rfl ?_
    refine wi_bipush (n := 67) (nx := 41) (r1 := 0) (r2 := 0) (r3 := 0) rfl (by decide) ?_
    refine wr_ia (k0 := 238) (a := 67) (f := 67) (x := e34) (nx := 42) (r1 := 0) (r2 := 0) (r3 := 0) rfl (by decide) rfl (by omega) (by omega) (by decide) w35 ?_
    refine wi_ireturn (nx := 43) (r1 := 0) (r2 := 0) (r3 := 0) rfl rfl ?_
    have e37 : h35 238 98 = h 238 98 := ((u35 238 98 rfl).trans ((u16 238 98 rfl).trans (u13 238 98 rfl)))
    have e38 : h35 238 99 = h 238 99 := ((u35 238 99 rfl).trans ((u16 238 99 rfl).trans (u13 238 99 rfl)))
    have e39 : h35 238 100 = h 238 100 := ((u35 238 100 rfl).trans ((u16 238 100 rfl).trans (u13 238 100 rfl)))
    have e40 : h35 238 101 = h 238 101 := ((u35 238 101 rfl).trans ((u16 238 101 rfl).trans (u13 238 101 rfl)))
    have e41 : h35 238 102 = h 238 102 := ((u35 238 102 rfl).trans ((u16 238 102 rfl).trans (u13 238 102 rfl)))
    have e42 : h35 238 106 = h 238 106 := ((u35 238 106 rfl).trans ((u16 238 106 rfl).trans (u13 238 106 rfl)))
    have e43 : h35 238 73 = h 238 73 := ((u35 238 73 rfl).trans ((u16 238 73 rfl).trans (u13 238 73 rfl)))
    have e44 : h35 238 2 = h 238 2 := ((u35 238 2 rfl).trans ((u16 238 2 rfl).trans (u13 238 2 rfl)))
    have e45 : h35 238 119 = h 238 119 := ((u35 238 119 rfl).trans ((u16 238 119 rfl).trans (u13 238 119 rfl)))
    have e46 : h35 238 67 = e34 := w35
    have e47 : h35 238 69 = h 238 69 := ((u35 238 69 rfl).trans ((u16 238 69 rfl).trans (u13 238 69 rfl)))
    have e48 : h35 238 5 = h 238 5 := ((u35 238 5 rfl).trans ((u16 238 5 rfl).trans (u13 238 5 rfl)))
    have gs49 := GPS.fr u35 rfl y16_0
    have gq50 := GQS.fr u35 rfl y16_1
    have gp51 := GPH.fr u35 rfl y16_2
    exact k h35 e34 g35 F36 (by omega) (show (h35 238 98) + (h35 238 99) + (h35 238 100) + (h35 238 101) + (h35 238 102) + (h35 238 106) = (h35 238 73) by omega) (show (h35 238 73) ≤ (h35 238 2) by omega) (show (h35 238 119) ≤ (h35 238 67) by omega) (show (h35 238 69) ≤ (h35 238 5) by omega) (show (h35 238 2) ≤ 12 * (h35 238 5) by omega) gs49 gq50 gp51
  ·
    refine wi_iconst (n := (-1)) (nx := 19) (r1 := 0) (r2 := 0) (r3 := 0) rfl ?_
    refine wi_ireturn (nx := 20) (r1 := 0) (r2 := 0) (r3 := 0) rfl rfl ?_
    have e16 : h13 238 98 = h 238 98 := (u13 238 98 rfl)
    have e17 : h13 238 99 = h 238 99 := (u13 238 99 rfl)
    have e18 : h13 238 100 = h 238 100 := (u13 238 100 rfl)
    have e19 : h13 238 101 = h 238 101 := (u13 238 101 rfl)
    have e20 : h13 238 102 = h 238 102 := (u13 238 102 rfl)
    have e21 : h13 238 106 = h 238 106 := (u13 238 106 rfl)
    have e22 : h13 238 73 = h 238 73 := (u13 238 73 rfl)
    have e23 : h13 238 2 = h 238 2 := (u13 238 2 rfl)
    have e24 : h13 238 119 = h 238 119 := (u13 238 119 rfl)
    have e25 : h13 238 67 = h 238 67 := (u13 238 67 rfl)
    have e26 : h13 238 69 = h 238 69 := (u13 238 69 rfl)
    have e27 : h13 238 5 = h 238 5 := (u13 238 5 rfl)
    have gs28 := GPS.fr u13 rfl xq0
    have gq29 := GQS.fr u13 rfl xq1
    have gp30 := GPH.fr u13 rfl gp0
    exact k h13 (-1) g13 F14 (by omega) (show (h13 238 98) + (h13 238 99) + (h13 238 100) + (h13 238 101) + (h13 238 102) + (h13 238 106) = (h13 238 73) by omega) (show (h13 238 73) ≤ (h13 238 2) by omega) (show (h13 238 119) ≤ (h13 238 67) by omega) (show (h13 238 69) ≤ (h13 238 5) by omega) (show (h13 238 2) ≤ 12 * (h13 238 5) by omega) gs28 gq29 gp30
-- method 250: Model.where(I)I
set_option maxRecDepth 100000 in
set_option maxHeartbeats 100000000 in
theorem ct_250_236 {L : Nat} {xs : Nat → Int32} {d b c : Nat} {h : hp} {cr : Nat → Nat → Option Nat} {Q : hp_Q} (hcr : CR cr)  (g : GI h) (a0 : Int) (q0_ : -2147483648 ≤ a0 ∧ a0 ≤ 2147483647)  (k : ∀ (h2 : hp) (z0 : Int) , GI h2 → FR [(236, 236, some (0, 0))] h h2 → (0 ≤ z0 ∧ z0 ≤ 3) → Q (.inl (some (vi z0))) (hp_w h2 cr) b c) : wp (md_xa (L, xs)) (d + 3) 250 (0, [(0, .ref 236), (1, vi a0)], [], hp_w h cr, b, c) Q := by
  have F0 : FR [(236, 236, some (0, 0))] h h := FR.refl
  refine wi_aload_n (i := 0) (x := 236) (nx := 1) (r1 := 0) (r2 := 0) (r3 := 0) rfl rfl ?_
  refine wi_aload_n (i := 0) (x := 236) (nx := 2) (r1 := 0) (r2 := 0) (r3 := 0) rfl rfl ?_
  refine wi_iload_n (i := 1) (e := a0) (nx := 3) (r1 := 0) (r2 := 0) (r3 := 0) rfl rfl ?_
  refine wr_V (k0 := 236) (rest := [.ref 236]) (as := [.ref 236, vi a0]) (nx := 6) (r1 := 243) (r2 := 1) (r3 := 11) rfl rfl rfl (of_decide_eq_true rfl) rfl rfl (by decide) rfl rfl (of_decide_eq_true rfl) (of_decide_eq_true rfl) ?_
  refine wi_iload_n (i := 1) (e := a0) (nx := 1) (r1 := 0) (r2 := 0) (r3 := 0) rfl rfl ?_
  refine wi_i2l (nx := 2) (r1 := 0) (r2 := 0) (r3 := 0) rfl (by omega) ?_
  refine wi_lconst (n := 0) (e := 0) (nx := 3) (r1 := 0) (r2 := 0) (r3 := 0) rfl (by decide) ?_
  refine wi_aload_n (i := 0) (x := 236) (nx := 4) (r1 := 0) (r2 := 0) (r3 := 0) rfl rfl ?_
  refine wr_gr (k0 := 236) (x := 238) (nx := 7) (r1 := 11) (r2 := 13) (r3 := 0) rfl rfl (by decide) rfl ⟨rfl, rfl⟩ rfl ?_
  refine wi_iconst (n := 2) (nx := 8) (r1 := 0) (r2 := 0) (r3 := 0) rfl ?_
  have b1 := gi_b (lo := 0) (hi := 12) g 238 2 rfl
  refine wr_ia (k0 := 238) (a := 2) (f := 2) (x := h 238 2) (nx := 9) (r1 := 0) (r2 := 0) (r3 := 0) rfl (by decide) rfl (by omega) (by omega) (by decide) rfl ?_
  refine wi_iconst (n := 1) (nx := 10) (r1 := 0) (r2 := 0) (r3 := 0) rfl ?_
  refine wr_sub (nx := 11) (r1 := 0) (r2 := 0) (r3 := 0) rfl (fun e2 (fe2 : e2 = (h 238 2) - 1) => ?_)
  refine wi_i2l (nx := 12) (r1 := 0) (r2 := 0) (r3 := 0) rfl (by omega) ?_
  refine wi_S (rest := []) (as := [vl a0, vl 0, vl e2]) (nx := 15) (r1 := 209) (r2 := 19) (r3 := 0) rfl rfl rfl (of_decide_eq_true rfl) rfl rfl (of_decide_eq_true rfl) (of_decide_eq_true rfl) ?_
  refine wi_lload_n (i := 0) (e := a0) (nx := 1) (r1 := 0) (r2 := 0) (r3 := 0) rfl rfl ?_
  refine wi_lload_n (i := 2) (e := 0) (nx := 2) (r1 := 0) (r2 := 0) (r3 := 0) rfl rfl ?_
  refine wi_lcmp (a := a0) (e := 0) (nx := 3) (r1 := 0) (r2 := 0) (r3 := 0) rfl (by omega) (by omega) (fun r3 (fr3 : (r3 = -1 ∧ a0 < 0) ∨ (r3 = 0 ∧ a0 = 0) ∨ (r3 = 1 ∧ 0 < a0)) => ?_)
  refine wi_if (cd := .lt) (nx := 6) (r1 := 17) (r2 := 0) (r3 := 0) rfl (by omega) (fun (q4 : r3 < 0) => ?_) (fun (q4 : ¬ (r3 < 0)) => ?_)
  ·
    refine wi_iconst (n := 0) (nx := 18) (r1 := 0) (r2 := 0) (r3 := 0) rfl ?_
    refine wi_zreturn (nx := 19) (r1 := 0) (r2 := 0) (r3 := 0) rfl rfl (by omega) ?_
    refine wk_i ?_
    refine wi_zreturn (nx := 16) (r1 := 0) (r2 := 0) (r3 := 0) rfl rfl (by omega) ?_
    refine wk_i ?_
    refine wr_V (k0 := 236) (rest := []) (as := [.ref 236, vi 0]) (nx := 9) (r1 := 205) (r2 := 1) (r3 := 11) rfl rfl rfl (of_decide_eq_true rfl) rfl rfl (by decide) rfl rfl (of_decide_eq_true rfl) (of_decide_eq_true rfl) ?_
    refine wi_aload_n (i := 0) (x := 236) (nx := 1) (r1 := 0) (r2 := 0) (r3 := 0) rfl rfl ?_
    refine wi_iload_n (i := 1) (e := 0) (nx := 2) (r1 := 0) (r2 := 0) (r3 := 0) rfl rfl ?_
    refine wi_if (cd := .ne) (nx := 5) (r1 := 9) (r2 := 0) (r3 := 0) rfl (by omega) (fun (q5 : 0 ≠ 0) => by exfalso; omega) (fun (q5 : ¬ (0 ≠ 0)) => ?_)
    refine wi_iconst (n := 1) (nx := 6) (r1 := 0) (r2 := 0) (r3 := 0) rfl ?_
    refine wi_goto (nx := 9) (r1 := 10) (r2 := 0) (r3 := 0) rfl ?_
    refine wi_S (rest := [.ref 236]) (as := [vi 1]) (nx := 13) (r1 := 206) (r2 := 17) (r3 := 0) rfl rfl rfl (of_decide_eq_true rfl) rfl rfl (of_decide_eq_true rfl) (of_decide_eq_true rfl) ?_
    refine wi_iload_n (i := 0) (e := 1) (nx := 1) (r1 := 0) (r2 := 0) (r3 := 0) rfl rfl ?_
    refine wi_if (cd := .eq) (nx := 4) (r1 := 8) (r2 := 0) (r3 := 0) rfl (by omega) (fun (q6 : 1 = 0) => by exfalso; omega) (fun (q6 : ¬ (1 = 0)) => ?_)
    refine wi_iconst (n := 1) (nx := 5) (r1 := 0) (r2 := 0) (r3 := 0) rfl ?_
    refine wi_goto (nx := 8) (r1 := 9) (r2 := 0) (r3 := 0) rfl ?_
    refine wi_ireturn (nx := 10) (r1 := 0) (r2 := 0) (r3 := 0) rfl rfl ?_
    refine wk_i ?_
    refine wr_pf0 (k0 := 236) (x := 1) (bl := 0) (bh := 2) (nx := 16) (r1 := 11) (r2 := 0) (r3 := 0) rfl (by decide) rfl ⟨rfl, rfl⟩ rfl rfl g rfl (by omega) (fun h7 g7 w7 u7 => ?_)
    have F8 := F0.then rfl u7
    refine wi_iload_n (i := 1) (e := 0) (nx := 17) (r1 := 0) (r2 := 0) (r3 := 0) rfl rfl ?_
    refine wi_zreturn (nx := 18) (r1 := 0) (r2 := 0) (r3 := 0) rfl rfl (by omega) ?_
    refine wk_i ?_
    refine wi_if (cd := .eq) (nx := 12) (r1 := 20) (r2 := 0) (r3 := 0) rfl (by omega) (fun (q9 : 0 = 0) => ?_) (fun (q9 : ¬ (0 = 0)) => by exfalso; omega)
    refine wi_iconst (n := 0) (nx := 21) (r1 := 0) (r2 := 0) (r3 := 0) rfl ?_
    refine wi_ireturn (nx := 22) (r1 := 0) (r2 := 0) (r3 := 0) rfl rfl ?_
    exact k h7 0 g7 F8 (by omega)
  ·
    refine wi_lload_n (i := 0) (e := a0) (nx := 7) (r1 := 0) (r2 := 0) (r3 := 0) rfl rfl ?_
    refine wi_lload (i := 4) (e := e2) (nx := 9) (r1 := 0) (r2 := 0) (r3 := 0) rfl rfl ?_
    refine wi_lcmp (a := a0) (e := e2) (nx := 10) (r1 := 0) (r2 := 0) (r3 := 0) rfl (by omega) (by omega) (fun r5 (fr5 : (r5 = -1 ∧ a0 < e2) ∨ (r5 = 0 ∧ a0 = e2) ∨ (r5 = 1 ∧ e2 < a0)) => ?_)
    refine wi_if (cd := .gt) (nx := 13) (r1 := 17) (r2 := 0) (r3 := 0) rfl (by omega) (fun (q6 : 0 < r5) => ?_) (fun (q6 : ¬ (0 < r5)) => ?_)
    ·
      refine wi_iconst (n := 0) (nx := 18) (r1 := 0) (r2 := 0) (r3 := 0) rfl ?_
      refine wi_zreturn (nx := 19) (r1 := 0) (r2 := 0) (r3 := 0) rfl rfl (by omega) ?_
      refine wk_i ?_
      refine wi_zreturn (nx := 16) (r1 := 0) (r2 := 0) (r3 := 0) rfl rfl (by omega) ?_
      refine wk_i ?_
      refine wr_V (k0 := 236) (rest := []) (as := [.ref 236, vi 0]) (nx := 9) (r1 := 205) (r2 := 1) (r3 := 11) rfl rfl rfl (of_decide_eq_true rfl) rfl rfl (by decide) rfl rfl (of_decide_eq_true rfl) (of_decide_eq_true rfl) ?_
      refine wi_aload_n (i := 0) (x := 236) (nx := 1) (r1 := 0) (r2 := 0) (r3 := 0) rfl rfl ?_
      refine wi_iload_n (i := 1) (e := 0) (nx := 2) (r1 := 0) (r2 := 0) (r3 := 0) rfl rfl ?_
      refine wi_if (cd := .ne) (nx := 5) (r1 := 9) (r2 := 0) (r3 := 0) rfl (by omega) (fun (q7 : 0 ≠ 0) => by exfalso; omega) (fun (q7 : ¬ (0 ≠ 0)) => ?_)
      refine wi_iconst (n := 1) (nx := 6) (r1 := 0) (r2 := 0) (r3 := 0) rfl ?_
      refine wi_goto (nx := 9) (r1 := 10) (r2 := 0) (r3 := 0) rfl ?_
      refine wi_S (rest := [.ref 236]) (as := [vi 1]) (nx := 13) (r1 := 206) (r2 := 17) (r3 := 0) rfl rfl rfl (of_decide_eq_true rfl) rfl rfl (of_decide_eq_true rfl) (of_decide_eq_true rfl) ?_
      refine wi_iload_n (i := 0) (e := 1) (nx := 1) (r1 := 0) (r2 := 0) (r3 := 0) rfl rfl ?_
      refine wi_if (cd := .eq) (nx := 4) (r1 := 8) (r2 := 0) (r3 := 0) rfl (by omega) (fun (q8 : 1 = 0) => by exfalso; omega) (fun (q8 : ¬ (1 = 0)) => ?_)
      refine wi_iconst (n := 1) (nx := 5) (r1 := 0) (r2 := 0) (r3 := 0) rfl ?_
      refine wi_goto (nx := 8) (r1 := 9) (r2 := 0) (r3 := 0) rfl ?_
      refine wi_ireturn (nx := 10) (r1 := 0) (r2 := 0) (r3 := 0) rfl rfl ?_
      refine wk_i ?_
      refine wr_pf0 (k0 := 236) (x := 1) (bl := 0) (bh := 2) (nx := 16) (r1 := 11) (r2 := 0) (r3 := 0) rfl (by decide) rfl ⟨rfl, rfl⟩ rfl rfl g rfl (by omega) (fun h9 g9 w9 u9 => ?_)
      have F10 := F0.then rfl u9
      refine wi_iload_n (i := 1) (e := 0) (nx := 17) (r1 := 0) (r2 := 0) (r3 := 0) rfl rfl ?_
      refine wi_zreturn (nx := 18) (r1 := 0) (r2 := 0) (r3 := 0) rfl rfl (by omega) ?_
      refine wk_i ?_
      refine wi_if (cd := .eq) (nx := 12) (r1 := 20) (r2 := 0) (r3 := 0) rfl (by omega) (fun (q11 : 0 = 0) => ?_) (fun (q11 : ¬ (0 = 0)) => by exfalso; omega)
      refine wi_iconst (n := 0) (nx := 21) (r1 := 0) (r2 := 0) (r3 := 0) rfl ?_
      refine wi_ireturn (nx := 22) (r1 := 0) (r2 := 0) (r3 := 0) rfl rfl ?_
      exact k h9 0 g9 F10 (by omega)
    ·
      refine wi_iconst (n := 1) (nx := 14) (r1 := 0) (r2 := 0) (r3 := 0) rfl ?_
      refine wi_goto (nx := 17) (r1 := 18) (r2 := 0) (r3 := 0) rfl ?_
      refine wi_zreturn (nx := 19) (r1 := 0) (r2 := 0) (r3 := 0) rfl rfl (by omega) ?_
      refine wk_i ?_
      refine wi_zreturn (nx := 16) (r1 := 0) (r2 := 0) (r3 := 0) rfl rfl (by omega) ?_
      refine wk_i ?_
      refine wr_V (k0 := 236) (rest := []) (as := [.ref 236, vi 1]) (nx := 9) (r1 := 205) (r2 := 1) (r3 := 11) rfl rfl rfl (of_decide_eq_true rfl) rfl rfl (by decide) rfl rfl (of_decide_eq_true rfl) (of_decide_eq_true rfl) ?_
      refine wi_aload_n (i := 0) (x := 236) (nx := 1) (r1 := 0) (r2 := 0) (r3 := 0) rfl rfl ?_
      refine wi_iload_n (i := 1) (e := 1) (nx := 2) (r1 := 0) (r2 := 0) (r3 := 0) rfl rfl ?_
      refine wi_if (cd := .ne) (nx := 5) (r1 := 9) (r2 := 0) (r3 := 0) rfl (by omega) (fun (q7 : 1 ≠ 0) => ?_) (fun (q7 : ¬ (1 ≠ 0)) => by exfalso; omega)
      refine wi_iconst (n := 0) (nx := 10) (r1 := 0) (r2 := 0) (r3 := 0) rfl ?_
      refine wi_S (rest := [.ref 236]) (as := [vi 0]) (nx := 13) (r1 := 206) (r2 := 17) (r3 := 0) rfl rfl rfl (of_decide_eq_true rfl) rfl rfl (of_decide_eq_true rfl) (of_decide_eq_true rfl) ?_
      refine wi_iload_n (i := 0) (e := 0) (nx := 1) (r1 := 0) (r2 := 0) (r3 := 0) rfl rfl ?_
      refine wi_if (cd := .eq) (nx := 4) (r1 := 8) (r2 := 0) (r3 := 0) rfl (by omega) (fun (q8 : 0 = 0) => ?_) (fun (q8 : ¬ (0 = 0)) => by exfalso; omega)
      refine wi_iconst (n := 0) (nx := 9) (r1 := 0) (r2 := 0) (r3 := 0) rfl ?_
      refine wi_ireturn (nx := 10) (r1 := 0) (r2 := 0) (r3 := 0) rfl rfl ?_
      refine wk_i ?_
      refine wr_pf0 (k0 := 236) (x := 0) (bl := 0) (bh := 2) (nx := 16) (r1 := 11) (r2 := 0) (r3 := 0) rfl (by decide) rfl ⟨rfl, rfl⟩ rfl rfl g rfl (by omega) (fun h9 g9 w9 u9 => ?_)
      have F10 := F0.then rfl u9
      refine wi_iload_n (i := 1) (e := 1) (nx := 17) (r1 := 0) (r2 := 0) (r3 := 0) rfl rfl ?_
      refine wi_zreturn (nx := 18) (r1 := 0) (r2 := 0) (r3 := 0) rfl rfl (by omega) ?_
      refine wk_i ?_
      refine wi_if (cd := .eq) (nx := 12) (r1 := 20) (r2 := 0) (r3 := 0) rfl (by omega) (fun (q11 : 1 = 0) => by exfalso; omega) (fun (q11 : ¬ (1 = 0)) => ?_)
      refine wi_aload_n (i := 0) (x := 236) (nx := 13) (r1 := 0) (r2 := 0) (r3 := 0) rfl rfl ?_
      refine wi_iload_n (i := 1) (e := a0) (nx := 14) (r1 := 0) (r2 := 0) (r3 := 0) rfl rfl ?_
      refine wr_V (k0 := 236) (rest := []) (as := [.ref 236, vi a0]) (nx := 17) (r1 := 251) (r2 := 1) (r3 := 11) rfl rfl rfl (of_decide_eq_true rfl) rfl rfl (by decide) rfl rfl (of_decide_eq_true rfl) (of_decide_eq_true rfl) ?_
      refine ct_251_236 hcr  g9 a0 (by omega)  (fun z13  (fz13 : 0 ≤ z13 ∧ z13 ≤ 3) => ?_)
      refine wk_i ?_
      refine wi_goto (nx := 20) (r1 := 21) (r2 := 0) (r3 := 0) rfl ?_
      refine wi_ireturn (nx := 22) (r1 := 0) (r2 := 0) (r3 := 0) rfl rfl ?_
      exact k h9 z13 g9 F10 (by omega)
