-- method 215: Model.goOn()V
set_option maxHeartbeats 100000000 in
theorem ct_215_236 {L : Nat} {xs : Nat → Int32} {d b c : Nat} {h : hp} {cr : Nat → Nat → Option Nat} {Q : hp_Q} (hcr : CR cr)  (g : GI h)   (pp0 : h 236 4 ≤ h 236 3) (k : ∀ (h2 : hp) , GI h2 → FR [(236, 236, some (4, 4)), (236, 236, some (5, 5)), (236, 236, some (6, 6)), (236, 236, some (7, 7)), (236, 236, some (12, 12))] h h2 → (h 236 4 ≤ h2 236 4) → (h2 236 4 ≤ h 236 3) → (h2 236 6 = 0 ∨ h 236 4 + 1 ≤ h2 236 4) → Q (.inl none) (hp_w h2 cr) b c) : wp (md_xa (L, xs)) (d + 1) 215 (0, [(0, .ref 236)], [], hp_w h cr, b, c) Q := by
  have F0 : FR [(236, 236, some (4, 4)), (236, 236, some (5, 5)), (236, 236, some (6, 6)), (236, 236, some (7, 7)), (236, 236, some (12, 12))] h h := FR.refl
  have b1 := gi_b (lo := 0) (hi := 800) g 236 4 rfl
  have b2 := gi_b (lo := 0) (hi := 800) g 236 3 rfl
  refine wl_0 (fun h3 => GI h3 ∧ FR [(236, 236, some (4, 4)), (236, 236, some (5, 5)), (236, 236, some (6, 6)), (236, 236, some (7, 7)), (236, 236, some (12, 12))] h h3 ∧ FR [(236, 236, some (4, 4))] h h3 ∧ (((h3 236 4) ≤ (h3 236 3)) ∧ ((h 236 4) ≤ (h3 236 4)))) (fun h3 => ((h3 236 3) - (h3 236 4)).toNat) (fun h3 => (0, [(0, .ref 236)], [], hp_w h3 cr, b, c)) ?_ h ⟨g, F0, FR.refl, (show ((h 236 4) ≤ (h 236 3)) ∧ ((h 236 4) ≤ (h 236 4)) by omega)⟩
  intro h3 ⟨g3, F4, u3, f3⟩ I3
  have e5 : h3 236 3 = h 236 3 := (u3 236 3 rfl)
  have b6 := gi_b (lo := 0) (hi := 800) g3 236 4 rfl
  refine wi_aload_n (i := 0) (x := 236) (nx := 1) (r1 := 0) (r2 := 0) (r3 := 0) rfl rfl ?_
  refine wi_iconst (n := 0) (nx := 2) (r1 := 0) (r2 := 0) (r3 := 0) rfl ?_
  refine wr_V (k0 := 236) (rest := []) (as := [.ref 236, vi 0]) (nx := 5) (r1 := 216) (r2 := 1) (r3 := 11) rfl rfl rfl (of_decide_eq_true rfl) rfl rfl (by decide) rfl rfl (of_decide_eq_true rfl) (of_decide_eq_true rfl) ?_
  refine wi_aload_n (i := 0) (x := 236) (nx := 1) (r1 := 0) (r2 := 0) (r3 := 0) rfl rfl ?_
  refine wr_gi0 (k0 := 236) (x := h3 236 4) (nx := 4) (r1 := 11) (r2 := 4) (r3 := 0) rfl rfl (by decide) rfl ⟨rfl, rfl⟩ rfl rfl ?_
  refine wi_iload_n (i := 1) (e := 0) (nx := 5) (r1 := 0) (r2 := 0) (r3 := 0) rfl rfl ?_
  refine wr_add (nx := 6) (r1 := 0) (r2 := 0) (r3 := 0) rfl (fun e7 (fe7 : e7 = (h3 236 4) + 0) => ?_)
  refine wi_aload_n (i := 0) (x := 236) (nx := 7) (r1 := 0) (r2 := 0) (r3 := 0) rfl rfl ?_
  refine wr_gi0 (k0 := 236) (x := h 236 3) (nx := 10) (r1 := 11) (r2 := 3) (r3 := 0) rfl rfl (by decide) rfl ⟨rfl, rfl⟩ rfl (u3 236 3 rfl) ?_
  refine wi_icmp (cd := .ge) (nx := 13) (r1 := 27) (r2 := 0) (r3 := 0) rfl (by omega) (by omega) (fun (q8 : (h 236 3) ≤ e7) => ?_) (fun (q8 : ¬ ((h 236 3) ≤ e7)) => ?_)
  ·
    refine wi_iconst (n := (-1)) (nx := 28) (r1 := 0) (r2 := 0) (r3 := 0) rfl ?_
    refine wi_ireturn (nx := 29) (r1 := 0) (r2 := 0) (r3 := 0) rfl rfl ?_
    refine wk_i ?_
    refine wi_bipush (n := 32) (nx := 7) (r1 := 0) (r2 := 0) (r3 := 0) rfl (by decide) ?_
    refine wi_icmp (cd := .eq) (nx := 10) (r1 := 20) (r2 := 0) (r3 := 0) rfl (by omega) (by omega) (fun (q9 : (-1) = 32) => by exfalso; omega) (fun (q9 : ¬ ((-1) = 32)) => ?_)
    refine wi_aload_n (i := 0) (x := 236) (nx := 11) (r1 := 0) (r2 := 0) (r3 := 0) rfl rfl ?_
    refine wi_iconst (n := 0) (nx := 12) (r1 := 0) (r2 := 0) (r3 := 0) rfl ?_
    refine wr_V (k0 := 236) (rest := []) (as := [.ref 236, vi 0]) (nx := 15) (r1 := 216) (r2 := 1) (r3 := 11) rfl rfl rfl (of_decide_eq_true rfl) rfl rfl (by decide) rfl rfl (of_decide_eq_true rfl) (of_decide_eq_true rfl) ?_
    refine wi_aload_n (i := 0) (x := 236) (nx := 1) (r1 := 0) (r2 := 0) (r3 := 0) rfl rfl ?_
    refine wr_gi0 (k0 := 236) (x := h3 236 4) (nx := 4) (r1 := 11) (r2 := 4) (r3 := 0) rfl rfl (by decide) rfl ⟨rfl, rfl⟩ rfl rfl ?_
    refine wi_iload_n (i := 1) (e := 0) (nx := 5) (r1 := 0) (r2 := 0) (r3 := 0) rfl rfl ?_
    refine wr_add (nx := 6) (r1 := 0) (r2 := 0) (r3 := 0) rfl (fun e10 (fe10 : e10 = (h3 236 4) + 0) => ?_)
    refine wi_aload_n (i := 0) (x := 236) (nx := 7) (r1 := 0) (r2 := 0) (r3 := 0) rfl rfl ?_
    refine wr_gi0 (k0 := 236) (x := h 236 3) (nx := 10) (r1 := 11) (r2 := 3) (r3 := 0) rfl rfl (by decide) rfl ⟨rfl, rfl⟩ rfl (u3 236 3 rfl) ?_
    refine wi_icmp (cd := .ge) (nx := 13) (r1 := 27) (r2 := 0) (r3 := 0) rfl (by omega) (by omega) (fun (q11 : (h 236 3) ≤ e10) => ?_) (fun (q11 : ¬ ((h 236 3) ≤ e10)) => by exfalso; omega)
    refine wi_iconst (n := (-1)) (nx := 28) (r1 := 0) (r2 := 0) (r3 := 0) rfl ?_
    refine wi_ireturn (nx := 29) (r1 := 0) (r2 := 0) (r3 := 0) rfl rfl ?_
    refine wk_i ?_
    refine wi_bipush (n := 10) (nx := 17) (r1 := 0) (r2 := 0) (r3 := 0) rfl (by decide) ?_
    refine wi_icmp (cd := .ne) (nx := 20) (r1 := 33) (r2 := 0) (r3 := 0) rfl (by omega) (by omega) (fun (q12 : (-1) ≠ 10) => ?_) (fun (q12 : ¬ ((-1) ≠ 10)) => by exfalso; omega)
    refine wi_aload_n (i := 0) (x := 236) (nx := 34) (r1 := 0) (r2 := 0) (r3 := 0) rfl rfl ?_
    refine wi_aload_n (i := 0) (x := 236) (nx := 35) (r1 := 0) (r2 := 0) (r3 := 0) rfl rfl ?_
    refine wr_gi0 (k0 := 236) (x := h3 236 4) (nx := 38) (r1 := 11) (r2 := 4) (r3 := 0) rfl rfl (by decide) rfl ⟨rfl, rfl⟩ rfl rfl ?_
    refine wr_pf0 (k0 := 236) (x := h3 236 4) (bl := 0) (bh := 800) (nx := 41) (r1 := 11) (r2 := 5) (r3 := 0) rfl (by decide) rfl ⟨rfl, rfl⟩ rfl rfl g3 rfl (by omega) (fun h13 g13 w13 u13 => ?_)
    have F14 := F4.then rfl u13
    refine wi_aload_n (i := 0) (x := 236) (nx := 42) (r1 := 0) (r2 := 0) (r3 := 0) rfl rfl ?_
    refine wi_lconst (n := 0) (e := 0) (nx := 43) (r1 := 0) (r2 := 0) (r3 := 0) rfl (by decide) ?_
    refine wr_pf1 (k0 := 236) (x := 0) (bl := -9223372036854775808) (bh := 9223372036854775807) (nx := 46) (r1 := 11) (r2 := 12) (r3 := 1) rfl (by decide) rfl ⟨rfl, rfl⟩ rfl rfl g13 rfl (by omega) (fun h15 g15 w15 u15 => ?_)
    have F16 := F14.then rfl u15
    refine wi_aload_n (i := 0) (x := 236) (nx := 47) (r1 := 0) (r2 := 0) (r3 := 0) rfl rfl ?_
    refine wi_iconst (n := 0) (nx := 48) (r1 := 0) (r2 := 0) (r3 := 0) rfl ?_
    refine wr_pf0 (k0 := 236) (x := 0) (bl := 0) (bh := 999) (nx := 51) (r1 := 11) (r2 := 7) (r3 := 0) rfl (by decide) rfl ⟨rfl, rfl⟩ rfl rfl g15 rfl (by omega) (fun h17 g17 w17 u17 => ?_)
    have F18 := F16.then rfl u17
    refine wi_aload_n (i := 0) (x := 236) (nx := 52) (r1 := 0) (r2 := 0) (r3 := 0) rfl rfl ?_
    refine wi_iconst (n := 0) (nx := 53) (r1 := 0) (r2 := 0) (r3 := 0) rfl ?_
    refine wr_V (k0 := 236) (rest := []) (as := [.ref 236, vi 0]) (nx := 56) (r1 := 216) (r2 := 1) (r3 := 11) rfl rfl rfl (of_decide_eq_true rfl) rfl rfl (by decide) rfl rfl (of_decide_eq_true rfl) (of_decide_eq_true rfl) ?_
    refine wi_aload_n (i := 0) (x := 236) (nx := 1) (r1 := 0) (r2 := 0) (r3 := 0) rfl rfl ?_
    refine wr_gi0 (k0 := 236) (x := h3 236 4) (nx := 4) (r1 := 11) (r2 := 4) (r3 := 0) rfl rfl (by decide) rfl ⟨rfl, rfl⟩ rfl ((u17 236 4 rfl).trans ((u15 236 4 rfl).trans (u13 236 4 rfl))) ?_
    refine wi_iload_n (i := 1) (e := 0) (nx := 5) (r1 := 0) (r2 := 0) (r3 := 0) rfl rfl ?_
    refine wr_add (nx := 6) (r1 := 0) (r2 := 0) (r3 := 0) rfl (fun e19 (fe19 : e19 = (h3 236 4) + 0) => ?_)
    refine wi_aload_n (i := 0) (x := 236) (nx := 7) (r1 := 0) (r2 := 0) (r3 := 0) rfl rfl ?_
    refine wr_gi0 (k0 := 236) (x := h 236 3) (nx := 10) (r1 := 11) (r2 := 3) (r3 := 0) rfl rfl (by decide) rfl ⟨rfl, rfl⟩ rfl ((u17 236 3 rfl).trans ((u15 236 3 rfl).trans ((u13 236 3 rfl).trans (u3 236 3 rfl)))) ?_
    refine wi_icmp (cd := .ge) (nx := 13) (r1 := 27) (r2 := 0) (r3 := 0) rfl (by omega) (by omega) (fun (q20 : (h 236 3) ≤ e19) => ?_) (fun (q20 : ¬ ((h 236 3) ≤ e19)) => by exfalso; omega)
    refine wi_iconst (n := (-1)) (nx := 28) (r1 := 0) (r2 := 0) (r3 := 0) rfl ?_
    refine wi_ireturn (nx := 29) (r1 := 0) (r2 := 0) (r3 := 0) rfl rfl ?_
    refine wk_i ?_
    refine wi_istore_n (i := 1) (e := -1) (lo2 := [(1, vi (-1)), (0, .ref 236)]) (nx := 57) (r1 := 0) (r2 := 0) (r3 := 0) rfl rfl ?_
    refine wi_iconst (n := 0) (nx := 58) (r1 := 0) (r2 := 0) (r3 := 0) rfl ?_
    refine wi_istore_n (i := 2) (e := 0) (lo2 := [(2, vi 0), (1, vi (-1)), (0, .ref 236)]) (nx := 59) (r1 := 0) (r2 := 0) (r3 := 0) rfl rfl ?_
    refine wi_iload_n (i := 1) (e := -1) (nx := 60) (r1 := 0) (r2 := 0) (r3 := 0) rfl rfl ?_
    refine wi_if (cd := .ge) (nx := 63) (r1 := 69) (r2 := 0) (r3 := 0) rfl (by omega) (fun (q21 : 0 ≤ (-1)) => by exfalso; omega) (fun (q21 : ¬ (0 ≤ (-1))) => ?_)
    refine wi_aload_n (i := 0) (x := 236) (nx := 64) (r1 := 0) (r2 := 0) (r3 := 0) rfl rfl ?_
    refine wi_iconst (n := 0) (nx := 65) (r1 := 0) (r2 := 0) (r3 := 0) rfl ?_
    refine wr_pf0 (k0 := 236) (x := 0) (bl := 0) (bh := 4) (nx := 68) (r1 := 11) (r2 := 6) (r3 := 0) rfl (by decide) rfl ⟨rfl, rfl⟩ rfl rfl g17 rfl (by omega) (fun h22 g22 w22 u22 => ?_)
    have F23 := F18.then rfl u22
    refine wi_return (nx := 69) (r1 := 0) (r2 := 0) (r3 := 0) rfl rfl ?_
    have e24 : h22 236 4 = h3 236 4 := ((u22 236 4 rfl).trans ((u17 236 4 rfl).trans ((u15 236 4 rfl).trans (u13 236 4 rfl))))
    have e25 : h22 236 6 = 0 := w22
    exact k h22 g22 F23 (show (h 236 4) ≤ (h22 236 4) by omega) (show (h22 236 4) ≤ (h 236 3) by omega) (show (h22 236 6) = 0 ∨ (h 236 4) + 1 ≤ (h22 236 4) by omega)
  ·
    refine wi_aload_n (i := 0) (x := 236) (nx := 14) (r1 := 0) (r2 := 0) (r3 := 0) rfl rfl ?_
    refine wr_gr (k0 := 236) (x := 237) (nx := 17) (r1 := 11) (r2 := 1) (r3 := 0) rfl rfl (by decide) rfl ⟨rfl, rfl⟩ rfl ?_
    refine wi_aload_n (i := 0) (x := 236) (nx := 18) (r1 := 0) (r2 := 0) (r3 := 0) rfl rfl ?_
    refine wr_gi0 (k0 := 236) (x := h3 236 4) (nx := 21) (r1 := 11) (r2 := 4) (r3 := 0) rfl rfl (by decide) rfl ⟨rfl, rfl⟩ rfl rfl ?_
    refine wi_iload_n (i := 1) (e := 0) (nx := 22) (r1 := 0) (r2 := 0) (r3 := 0) rfl rfl ?_
    refine wr_add (nx := 23) (r1 := 0) (r2 := 0) (r3 := 0) rfl (fun e9 (fe9 : e9 = (h3 236 4) + 0) => ?_)
    obtain ⟨i10, ei10⟩ : ∃ q : Nat, e9 = (q : Int) := ⟨(e9).toNat, by omega⟩
    have b11 := gi_b (lo := 0) (hi := 255) g 237 i10 rfl
    refine wr_ia (k0 := 237) (a := e9) (f := i10) (x := h 237 i10) (nx := 24) (r1 := 0) (r2 := 0) (r3 := 0) rfl (by decide) rfl (by omega) (by omega) (by decide) (u3 237 i10 (fn_a (by omega) fn_0)) ?_
    refine wi_goto (nx := 27) (r1 := 28) (r2 := 0) (r3 := 0) rfl ?_
    refine wi_ireturn (nx := 29) (r1 := 0) (r2 := 0) (r3 := 0) rfl rfl ?_
    refine wk_i ?_
    refine wi_bipush (n := 32) (nx := 7) (r1 := 0) (r2 := 0) (r3 := 0) rfl (by decide) ?_
    refine wi_icmp (cd := .eq) (nx := 10) (r1 := 20) (r2 := 0) (r3 := 0) rfl (by omega) (by omega) (fun (q12 : (h 237 i10) = 32) => ?_) (fun (q12 : ¬ ((h 237 i10) = 32)) => ?_)
    ·
      refine wi_aload_n (i := 0) (x := 236) (nx := 21) (r1 := 0) (r2 := 0) (r3 := 0) rfl rfl ?_
      refine wi_dup (nx := 22) (r1 := 0) (r2 := 0) (r3 := 0) rfl rfl ?_
      refine wr_gi0 (k0 := 236) (x := h3 236 4) (nx := 25) (r1 := 11) (r2 := 4) (r3 := 0) rfl rfl (by decide) rfl ⟨rfl, rfl⟩ rfl rfl ?_
      refine wi_iconst (n := 1) (nx := 26) (r1 := 0) (r2 := 0) (r3 := 0) rfl ?_
      refine wr_add (nx := 27) (r1 := 0) (r2 := 0) (r3 := 0) rfl (fun e13 (fe13 : e13 = (h3 236 4) + 1) => ?_)
      refine wr_pf0 (k0 := 236) (x := e13) (bl := 0) (bh := 800) (nx := 30) (r1 := 11) (r2 := 4) (r3 := 0) rfl (by decide) rfl ⟨rfl, rfl⟩ rfl rfl g3 rfl (by omega) (fun h14 g14 w14 u14 => ?_)
      have F15 := F4.then rfl u14
      have F16 := u3.then rfl u14
      refine wi_goto (nx := 33) (r1 := 0) (r2 := 0) (r3 := 0) rfl ?_
      have e17 : h14 236 4 = e13 := w14
      have e18 : h14 236 3 = h 236 3 := ((u14 236 3 rfl).trans (u3 236 3 rfl))
      exact I3 h14 ⟨g14, F15, F16, (show ((h14 236 4) ≤ (h14 236 3)) ∧ ((h 236 4) ≤ (h14 236 4)) by omega)⟩ (show ((h14 236 3) - (h14 236 4)).toNat < ((h3 236 3) - (h3 236 4)).toNat by omega)
    ·
      refine wi_aload_n (i := 0) (x := 236) (nx := 11) (r1 := 0) (r2 := 0) (r3 := 0) rfl rfl ?_
      refine wi_iconst (n := 0) (nx := 12) (r1 := 0) (r2 := 0) (r3 := 0) rfl ?_
      refine wr_V (k0 := 236) (rest := []) (as := [.ref 236, vi 0]) (nx := 15) (r1 := 216) (r2 := 1) (r3 := 11) rfl rfl rfl (of_decide_eq_true rfl) rfl rfl (by decide) rfl rfl (of_decide_eq_true rfl) (of_decide_eq_true rfl) ?_
      refine wi_aload_n (i := 0) (x := 236) (nx := 1) (r1 := 0) (r2 := 0) (r3 := 0) rfl rfl ?_
      refine wr_gi0 (k0 := 236) (x := h3 236 4) (nx := 4) (r1 := 11) (r2 := 4) (r3 := 0) rfl rfl (by decide) rfl ⟨rfl, rfl⟩ rfl rfl ?_
      refine wi_iload_n (i := 1) (e := 0) (nx := 5) (r1 := 0) (r2 := 0) (r3 := 0) rfl rfl ?_
      refine wr_add (nx := 6) (r1 := 0) (r2 := 0) (r3 := 0) rfl (fun e13 (fe13 : e13 = (h3 236 4) + 0) => ?_)
      refine wi_aload_n (i := 0) (x := 236) (nx := 7) (r1 := 0) (r2 := 0) (r3 := 0) rfl rfl ?_
      refine wr_gi0 (k0 := 236) (x := h 236 3) (nx := 10) (r1 := 11) (r2 := 3) (r3 := 0) rfl rfl (by decide) rfl ⟨rfl, rfl⟩ rfl (u3 236 3 rfl) ?_
      refine wi_icmp (cd := .ge) (nx := 13) (r1 := 27) (r2 := 0) (r3 := 0) rfl (by omega) (by omega) (fun (q14 : (h 236 3) ≤ e13) => by exfalso; omega) (fun (q14 : ¬ ((h 236 3) ≤ e13)) => ?_)
      refine wi_aload_n (i := 0) (x := 236) (nx := 14) (r1 := 0) (r2 := 0) (r3 := 0) rfl rfl ?_
      refine wr_gr (k0 := 236) (x := 237) (nx := 17) (r1 := 11) (r2 := 1) (r3 := 0) rfl rfl (by decide) rfl ⟨rfl, rfl⟩ rfl ?_
      refine wi_aload_n (i := 0) (x := 236) (nx := 18) (r1 := 0) (r2 := 0) (r3 := 0) rfl rfl ?_
      refine wr_gi0 (k0 := 236) (x := h3 236 4) (nx := 21) (r1 := 11) (r2 := 4) (r3 := 0) rfl rfl (by decide) rfl ⟨rfl, rfl⟩ rfl rfl ?_
      refine wi_iload_n (i := 1) (e := 0) (nx := 22) (r1 := 0) (r2 := 0) (r3 := 0) rfl rfl ?_
      refine wr_add (nx := 23) (r1 := 0) (r2 := 0) (r3 := 0) rfl (fun e15 (fe15 : e15 = (h3 236 4) + 0) => ?_)
      refine wr_ia (k0 := 237) (a := e15) (f := i10) (x := h 237 i10) (nx := 24) (r1 := 0) (r2 := 0) (r3 := 0) rfl (by decide) rfl (by omega) (by omega) (by decide) (u3 237 i10 (fn_a (by omega) fn_0)) ?_
      refine wi_goto (nx := 27) (r1 := 28) (r2 := 0) (r3 := 0) rfl ?_
      refine wi_ireturn (nx := 29) (r1 := 0) (r2 := 0) (r3 := 0) rfl rfl ?_
      refine wk_i ?_
      refine wi_bipush (n := 10) (nx := 17) (r1 := 0) (r2 := 0) (r3 := 0) rfl (by decide) ?_
      refine wi_icmp (cd := .ne) (nx := 20) (r1 := 33) (r2 := 0) (r3 := 0) rfl (by omega) (by omega) (fun (q16 : (h 237 i10) ≠ 10) => ?_) (fun (q16 : ¬ ((h 237 i10) ≠ 10)) => ?_)
      ·
        refine wi_aload_n (i := 0) (x := 236) (nx := 34) (r1 := 0) (r2 := 0) (r3 := 0) rfl rfl ?_
        refine wi_aload_n (i := 0) (x := 236) (nx := 35) (r1 := 0) (r2 := 0) (r3 := 0) rfl rfl ?_
        refine wr_gi0 (k0 := 236) (x := h3 236 4) (nx := 38) (r1 := 11) (r2 := 4) (r3 := 0) rfl rfl (by decide) rfl ⟨rfl, rfl⟩ rfl rfl ?_
        refine wr_pf0 (k0 := 236) (x := h3 236 4) (bl := 0) (bh := 800) (nx := 41) (r1 := 11) (r2 := 5) (r3 := 0) rfl (by decide) rfl ⟨rfl, rfl⟩ rfl rfl g3 rfl (by omega) (fun h17 g17 w17 u17 => ?_)
        have F18 := F4.then rfl u17
        refine wi_aload_n (i := 0) (x := 236) (nx := 42) (r1 := 0) (r2 := 0) (r3 := 0) rfl rfl ?_
        refine wi_lconst (n := 0) (e := 0) (nx := 43) (r1 := 0) (r2 := 0) (r3 := 0) rfl (by decide) ?_
        refine wr_pf1 (k0 := 236) (x := 0) (bl := -9223372036854775808) (bh := 9223372036854775807) (nx := 46) (r1 := 11) (r2 := 12) (r3 := 1) rfl (by decide) rfl ⟨rfl, rfl⟩ rfl rfl g17 rfl (by omega) (fun h19 g19 w19 u19 => ?_)
        have F20 := F18.then rfl u19
        refine wi_aload_n (i := 0) (x := 236) (nx := 47) (r1 := 0) (r2 := 0) (r3 := 0) rfl rfl ?_
        refine wi_iconst (n := 0) (nx := 48) (r1 := 0) (r2 := 0) (r3 := 0) rfl ?_
        refine wr_pf0 (k0 := 236) (x := 0) (bl := 0) (bh := 999) (nx := 51) (r1 := 11) (r2 := 7) (r3 := 0) rfl (by decide) rfl ⟨rfl, rfl⟩ rfl rfl g19 rfl (by omega) (fun h21 g21 w21 u21 => ?_)
        have F22 := F20.then rfl u21
        refine wi_aload_n (i := 0) (x := 236) (nx := 52) (r1 := 0) (r2 := 0) (r3 := 0) rfl rfl ?_
        refine wi_iconst (n := 0) (nx := 53) (r1 := 0) (r2 := 0) (r3 := 0) rfl ?_
        refine wr_V (k0 := 236) (rest := []) (as := [.ref 236, vi 0]) (nx := 56) (r1 := 216) (r2 := 1) (r3 := 11) rfl rfl rfl (of_decide_eq_true rfl) rfl rfl (by decide) rfl rfl (of_decide_eq_true rfl) (of_decide_eq_true rfl) ?_
        refine wi_aload_n (i := 0) (x := 236) (nx := 1) (r1 := 0) (r2 := 0) (r3 := 0) rfl rfl ?_
        refine wr_gi0 (k0 := 236) (x := h3 236 4) (nx := 4) (r1 := 11) (r2 := 4) (r3 := 0) rfl rfl (by decide) rfl ⟨rfl, rfl⟩ rfl ((u21 236 4 rfl).trans ((u19 236 4 rfl).trans (u17 236 4 rfl))) ?_
        refine wi_iload_n (i := 1) (e := 0) (nx := 5) (r1 := 0) (r2 := 0) (r3 := 0) rfl rfl ?_
        refine wr_add (nx := 6) (r1 := 0) (r2 := 0) (r3 := 0) rfl (fun e23 (fe23 : e23 = (h3 236 4) + 0) => ?_)
        refine wi_aload_n (i := 0) (x := 236) (nx := 7) (r1 := 0) (r2 := 0) (r3 := 0) rfl rfl ?_
        refine wr_gi0 (k0 := 236) (x := h 236 3) (nx := 10) (r1 := 11) (r2 := 3) (r3 := 0) rfl rfl (by decide) rfl ⟨rfl, rfl⟩ rfl ((u21 236 3 rfl).trans ((u19 236 3 rfl).trans ((u17 236 3 rfl).trans (u3 236 3 rfl)))) ?_
        refine wi_icmp (cd := .ge) (nx := 13) (r1 := 27) (r2 := 0) (r3 := 0) rfl (by omega) (by omega) (fun (q24 : (h 236 3) ≤ e23) => by exfalso; omega) (fun (q24 : ¬ ((h 236 3) ≤ e23)) => ?_)
        refine wi_aload_n (i := 0) (x := 236) (nx := 14) (r1 := 0) (r2 := 0) (r3 := 0) rfl rfl ?_
        refine wr_gr (k0 := 236) (x := 237) (nx := 17) (r1 := 11) (r2 := 1) (r3 := 0) rfl rfl (by decide) rfl ⟨rfl, rfl⟩ rfl ?_
        refine wi_aload_n (i := 0) (x := 236) (nx := 18) (r1 := 0) (r2 := 0) (r3 := 0) rfl rfl ?_
        refine wr_gi0 (k0 := 236) (x := h3 236 4) (nx := 21) (r1 := 11) (r2 := 4) (r3 := 0) rfl rfl (by decide) rfl ⟨rfl, rfl⟩ rfl ((u21 236 4 rfl).trans ((u19 236 4 rfl).trans (u17 236 4 rfl))) ?_
        refine wi_iload_n (i := 1) (e := 0) (nx := 22) (r1 := 0) (r2 := 0) (r3 := 0) rfl rfl ?_
        refine wr_add (nx := 23) (r1 := 0) (r2 := 0) (r3 := 0) rfl (fun e25 (fe25 : e25 = (h3 236 4) + 0) => ?_)
        refine wr_ia (k0 := 237) (a := e25) (f := i10) (x := h 237 i10) (nx := 24) (r1 := 0) (r2 := 0) (r3 := 0) rfl (by decide) rfl (by omega) (by omega) (by decide) ((u21 237 i10 (fn_a (by omega) fn_0)).trans ((u19 237 i10 (fn_a (by omega) fn_0)).trans ((u17 237 i10 (fn_a (by omega) fn_0)).trans (u3 237 i10 (fn_a (by omega) fn_0))))) ?_
        refine wi_goto (nx := 27) (r1 := 28) (r2 := 0) (r3 := 0) rfl ?_
        refine wi_ireturn (nx := 29) (r1 := 0) (r2 := 0) (r3 := 0) rfl rfl ?_
        refine wk_i ?_
        refine wi_istore_n (i := 1) (e := h 237 i10) (lo2 := [(1, vi (h 237 i10)), (0, .ref 236)]) (nx := 57) (r1 := 0) (r2 := 0) (r3 := 0) rfl rfl ?_
        refine wi_iconst (n := 0) (nx := 58) (r1 := 0) (r2 := 0) (r3 := 0) rfl ?_
        refine wi_istore_n (i := 2) (e := 0) (lo2 := [(2, vi 0), (1, vi (h 237 i10)), (0, .ref 236)]) (nx := 59) (r1 := 0) (r2 := 0) (r3 := 0) rfl rfl ?_
        refine wi_iload_n (i := 1) (e := h 237 i10) (nx := 60) (r1 := 0) (r2 := 0) (r3 := 0) rfl rfl ?_
        refine wi_if (cd := .ge) (nx := 63) (r1 := 69) (r2 := 0) (r3 := 0) rfl (by omega) (fun (q26 : 0 ≤ (h 237 i10)) => ?_) (fun (q26 : ¬ (0 ≤ (h 237 i10))) => by exfalso; omega)
        refine wi_iload_n (i := 1) (e := h 237 i10) (nx := 70) (r1 := 0) (r2 := 0) (r3 := 0) rfl rfl ?_
        refine wi_S (rest := []) (as := [vi (h 237 i10)]) (nx := 73) (r1 := 217) (r2 := 17) (r3 := 0) rfl rfl rfl (of_decide_eq_true rfl) rfl rfl (of_decide_eq_true rfl) (of_decide_eq_true rfl) ?_
        refine wi_iload_n (i := 0) (e := h 237 i10) (nx := 1) (r1 := 0) (r2 := 0) (r3 := 0) rfl rfl ?_
        refine wi_bipush (n := 97) (nx := 3) (r1 := 0) (r2 := 0) (r3 := 0) rfl (by decide) ?_
        refine wi_icmp (cd := .lt) (nx := 6) (r1 := 16) (r2 := 0) (r3 := 0) rfl (by omega) (by omega) (fun (q27 : (h 237 i10) < 97) => ?_) (fun (q27 : ¬ ((h 237 i10) < 97)) => ?_)
        ·
          refine wi_iconst (n := 0) (nx := 17) (r1 := 0) (r2 := 0) (r3 := 0) rfl ?_
          refine wi_zreturn (nx := 18) (r1 := 0) (r2 := 0) (r3 := 0) rfl rfl (by omega) ?_
          refine wk_i ?_
          refine wi_if (cd := .eq) (nx := 76) (r1 := 139) (r2 := 0) (r3 := 0) rfl (by omega) (fun (q28 : 0 = 0) => ?_) (fun (q28 : ¬ (0 = 0)) => by exfalso; omega)
          refine wi_iload_n (i := 1) (e := h 237 i10) (nx := 140) (r1 := 0) (r2 := 0) (r3 := 0) rfl rfl ?_
          refine wi_S (rest := []) (as := [vi (h 237 i10)]) (nx := 143) (r1 := 218) (r2 := 17) (r3 := 0) rfl rfl rfl (of_decide_eq_true rfl) rfl rfl (of_decide_eq_true rfl) (of_decide_eq_true rfl) ?_
          refine wi_iload_n (i := 0) (e := h 237 i10) (nx := 1) (r1 := 0) (r2 := 0) (r3 := 0) rfl rfl ?_
          refine wi_bipush (n := 48) (nx := 3) (r1 := 0) (r2 := 0) (r3 := 0) rfl (by decide) ?_
          refine wi_icmp (cd := .lt) (nx := 6) (r1 := 16) (r2 := 0) (r3 := 0) rfl (by omega) (by omega) (fun (q29 : (h 237 i10) < 48) => ?_) (fun (q29 : ¬ ((h 237 i10) < 48)) => ?_)
          ·
            refine wi_iconst (n := 0) (nx := 17) (r1 := 0) (r2 := 0) (r3 := 0) rfl ?_
            refine wi_zreturn (nx := 18) (r1 := 0) (r2 := 0) (r3 := 0) rfl rfl (by omega) ?_
            refine wk_i ?_
            refine wi_if (cd := .eq) (nx := 146) (r1 := 205) (r2 := 0) (r3 := 0) rfl (by omega) (fun (q30 : 0 = 0) => ?_) (fun (q30 : ¬ (0 = 0)) => by exfalso; omega)
            refine wi_aload_n (i := 0) (x := 236) (nx := 206) (r1 := 0) (r2 := 0) (r3 := 0) rfl rfl ?_
            refine wi_iload_n (i := 1) (e := h 237 i10) (nx := 207) (r1 := 0) (r2 := 0) (r3 := 0) rfl rfl ?_
            refine wi_bipush (n := 59) (nx := 209) (r1 := 0) (r2 := 0) (r3 := 0) rfl (by decide) ?_
            refine wi_icmp (cd := .eq) (nx := 212) (r1 := 224) (r2 := 0) (r3 := 0) rfl (by omega) (by omega) (fun (q31 : (h 237 i10) = 59) => by exfalso; omega) (fun (q31 : ¬ ((h 237 i10) = 59)) => ?_)
            refine wi_iload_n (i := 1) (e := h 237 i10) (nx := 213) (r1 := 0) (r2 := 0) (r3 := 0) rfl rfl ?_
            refine wi_bipush (n := 40) (nx := 215) (r1 := 0) (r2 := 0) (r3 := 0) rfl (by decide) ?_
            refine wi_icmp (cd := .eq) (nx := 218) (r1 := 224) (r2 := 0) (r3 := 0) rfl (by omega) (by omega) (fun (q32 : (h 237 i10) = 40) => ?_) (fun (q32 : ¬ ((h 237 i10) = 40)) => ?_)
            ·
              refine wi_iconst (n := 3) (nx := 225) (r1 := 0) (r2 := 0) (r3 := 0) rfl ?_
              refine wi_goto (nx := 228) (r1 := 229) (r2 := 0) (r3 := 0) rfl ?_
              refine wr_pf0 (k0 := 236) (x := 3) (bl := 0) (bh := 4) (nx := 232) (r1 := 11) (r2 := 6) (r3 := 0) rfl (by decide) rfl ⟨rfl, rfl⟩ rfl rfl g21 rfl (by omega) (fun h33 g33 w33 u33 => ?_)
              have F34 := F22.then rfl u33
              refine wi_aload_n (i := 0) (x := 236) (nx := 233) (r1 := 0) (r2 := 0) (r3 := 0) rfl rfl ?_
              refine wi_iload_n (i := 1) (e := h 237 i10) (nx := 234) (r1 := 0) (r2 := 0) (r3 := 0) rfl rfl ?_
              refine wr_pf0 (k0 := 236) (x := h 237 i10) (bl := 0) (bh := 999) (nx := 237) (r1 := 11) (r2 := 7) (r3 := 0) rfl (by decide) rfl ⟨rfl, rfl⟩ rfl rfl g33 rfl (by omega) (fun h35 g35 w35 u35 => ?_)
              have F36 := F34.then rfl u35
              refine wi_iconst (n := 1) (nx := 238) (r1 := 0) (r2 := 0) (r3 := 0) rfl ?_
              refine wi_istore_n (i := 2) (e := 1) (lo2 := [(2, vi 1), (1, vi (h 237 i10)), (0, .ref 236)]) (nx := 239) (r1 := 0) (r2 := 0) (r3 := 0) rfl rfl ?_
              refine wi_aload_n (i := 0) (x := 236) (nx := 240) (r1 := 0) (r2 := 0) (r3 := 0) rfl rfl ?_
              refine wi_dup (nx := 241) (r1 := 0) (r2 := 0) (r3 := 0) rfl rfl ?_
              refine wr_gi0 (k0 := 236) (x := h3 236 4) (nx := 244) (r1 := 11) (r2 := 4) (r3 := 0) rfl rfl (by decide) rfl ⟨rfl, rfl⟩ rfl ((u35 236 4 rfl).trans ((u33 236 4 rfl).trans ((u21 236 4 rfl).trans ((u19 236 4 rfl).trans (u17 236 4 rfl))))) ?_
              refine wi_iload_n (i := 2) (e := 1) (nx := 245) (r1 := 0) (r2 := 0) (r3 := 0) rfl rfl ?_
              refine wr_add (nx := 246) (r1 := 0) (r2 := 0) (r3 := 0) rfl (fun e37 (fe37 : e37 = (h3 236 4) + 1) => ?_)
              refine wr_pf0 (k0 := 236) (x := e37) (bl := 0) (bh := 800) (nx := 249) (r1 := 11) (r2 := 4) (r3 := 0) rfl (by decide) rfl ⟨rfl, rfl⟩ rfl rfl g35 rfl (by omega) (fun h38 g38 w38 u38 => ?_)
              have F39 := F36.then rfl u38
              refine wi_return (nx := 250) (r1 := 0) (r2 := 0) (r3 := 0) rfl rfl ?_
              have e40 : h38 236 4 = e37 := w38
              have e41 : h38 236 6 = 3 := ((u38 236 6 rfl).trans ((u35 236 6 rfl).trans w33))
              exact k h38 g38 F39 (show (h 236 4) ≤ (h38 236 4) by omega) (show (h38 236 4) ≤ (h 236 3) by omega) (show (h38 236 6) = 0 ∨ (h 236 4) + 1 ≤ (h38 236 4) by omega)
            ·
              refine wi_iload_n (i := 1) (e := h 237 i10) (nx := 219) (r1 := 0) (r2 := 0) (r3 := 0) rfl rfl ?_
              refine wi_bipush (n := 41) (nx := 221) (r1 := 0) (r2 := 0) (r3 := 0) rfl (by decide) ?_
              refine wi_icmp (cd := .ne) (nx := 224) (r1 := 228) (r2 := 0) (r3 := 0) rfl (by omega) (by omega) (fun (q33 : (h 237 i10) ≠ 41) => ?_) (fun (q33 : ¬ ((h 237 i10) ≠ 41)) => ?_)
              ·
                refine wi_iconst (n := 4) (nx := 229) (r1 := 0) (r2 := 0) (r3 := 0) rfl ?_
                refine wr_pf0 (k0 := 236) (x := 4) (bl := 0) (bh := 4) (nx := 232) (r1 := 11) (r2 := 6) (r3 := 0) rfl (by decide) rfl ⟨rfl, rfl⟩ rfl rfl g21 rfl (by omega) (fun h34 g34 w34 u34 => ?_)
                have F35 := F22.then rfl u34
                refine wi_aload_n (i := 0) (x := 236) (nx := 233) (r1 := 0) (r2 := 0) (r3 := 0) rfl rfl ?_
                refine wi_iload_n (i := 1) (e := h 237 i10) (nx := 234) (r1 := 0) (r2 := 0) (r3 := 0) rfl rfl ?_
                refine wr_pf0 (k0 := 236) (x := h 237 i10) (bl := 0) (bh := 999) (nx := 237) (r1 := 11) (r2 := 7) (r3 := 0) rfl (by decide) rfl ⟨rfl, rfl⟩ rfl rfl g34 rfl (by omega) (fun h36 g36 w36 u36 => ?_)
                have F37 := F35.then rfl u36
                refine wi_iconst (n := 1) (nx := 238) (r1 := 0) (r2 := 0) (r3 := 0) rfl ?_
                refine wi_istore_n (i := 2) (e := 1) (lo2 := [(2, vi 1), (1, vi (h 237 i10)), (0, .ref 236)]) (nx := 239) (r1 := 0) (r2 := 0) (r3 := 0) rfl rfl ?_
                refine wi_aload_n (i := 0) (x := 236) (nx := 240) (r1 := 0) (r2 := 0) (r3 := 0) rfl rfl ?_
                refine wi_dup (nx := 241) (r1 := 0) (r2 := 0) (r3 := 0) rfl rfl ?_
                refine wr_gi0 (k0 := 236) (x := h3 236 4) (nx := 244) (r1 := 11) (r2 := 4) (r3 := 0) rfl rfl (by decide) rfl ⟨rfl, rfl⟩ rfl ((u36 236 4 rfl).trans ((u34 236 4 rfl).trans ((u21 236 4 rfl).trans ((u19 236 4 rfl).trans (u17 236 4 rfl))))) ?_
                refine wi_iload_n (i := 2) (e := 1) (nx := 245) (r1 := 0) (r2 := 0) (r3 := 0) rfl rfl ?_
                refine wr_add (nx := 246) (r1 := 0) (r2 := 0) (r3 := 0) rfl (fun e38 (fe38 : e38 = (h3 236 4) + 1) => ?_)
                refine wr_pf0 (k0 := 236) (x := e38) (bl := 0) (bh := 800) (nx := 249) (r1 := 11) (r2 := 4) (r3 := 0) rfl (by decide) rfl ⟨rfl, rfl⟩ rfl rfl g36 rfl (by omega) (fun h39 g39 w39 u39 => ?_)
                have F40 := F37.then rfl u39
                refine wi_return (nx := 250) (r1 := 0) (r2 := 0) (r3 := 0) rfl rfl ?_
                have e41 : h39 236 4 = e38 := w39
                have e42 : h39 236 6 = 4 := ((u39 236 6 rfl).trans ((u36 236 6 rfl).trans w34))
                exact k h39 g39 F40 (show (h 236 4) ≤ (h39 236 4) by omega) (show (h39 236 4) ≤ (h 236 3) by omega) (show (h39 236 6) = 0 ∨ (h 236 4) + 1 ≤ (h39 236 4) by omega)
              ·
                refine wi_iconst (n := 3) (nx := 225) (r1 := 0) (r2 := 0) (r3 := 0) rfl ?_
                refine wi_goto (nx := 228) (r1 := 229) (r2 := 0) (r3 := 0) rfl ?_
                refine wr_pf0 (k0 := 236) (x := 3) (bl := 0) (bh := 4) (nx := 232) (r1 := 11) (r2 := 6) (r3 := 0) rfl (by decide) rfl ⟨rfl, rfl⟩ rfl rfl g21 rfl (by omega) (fun h34 g34 w34 u34 => ?_)
                have F35 := F22.then rfl u34
                refine wi_aload_n (i := 0) (x := 236) (nx := 233) (r1 := 0) (r2 := 0) (r3 := 0) rfl rfl ?_
                refine wi_iload_n (i := 1) (e := h 237 i10) (nx := 234) (r1 := 0) (r2 := 0) (r3 := 0) rfl rfl ?_
                refine wr_pf0 (k0 := 236) (x := h 237 i10) (bl := 0) (bh := 999) (nx := 237) (r1 := 11) (r2 := 7) (r3 := 0) rfl (by decide) rfl ⟨rfl, rfl⟩ rfl rfl g34 rfl (by omega) (fun h36 g36 w36 u36 => ?_)
                have F37 := F35.then rfl u36
                refine wi_iconst (n := 1) (nx := 238) (r1 := 0) (r2 := 0) (r3 := 0) rfl ?_
                refine wi_istore_n (i := 2) (e := 1) (lo2 := [(2, vi 1), (1, vi (h 237 i10)), (0, .ref 236)]) (nx := 239) (r1 := 0) (r2 := 0) (r3 := 0) rfl rfl ?_
                refine wi_aload_n (i := 0) (x := 236) (nx := 240) (r1 := 0) (r2 := 0) (r3 := 0) rfl rfl ?_
                refine wi_dup (nx := 241) (r1 := 0) (r2 := 0) (r3 := 0) rfl rfl ?_
                refine wr_gi0 (k0 := 236) (x := h3 236 4) (nx := 244) (r1 := 11) (r2 := 4) (r3 := 0) rfl rfl (by decide) rfl ⟨rfl, rfl⟩ rfl ((u36 236 4 rfl).trans ((u34 236 4 rfl).trans ((u21 236 4 rfl).trans ((u19 236 4 rfl).trans (u17 236 4 rfl))))) ?_
                refine wi_iload_n (i := 2) (e := 1) (nx := 245) (r1 := 0) (r2 := 0) (r3 := 0) rfl rfl ?_
                refine wr_add (nx := 246) (r1 := 0) (r2 := 0) (r3 := 0) rfl (fun e38 (fe38 : e38 = (h3 236 4) + 1) => ?_)
                refine wr_pf0 (k0 := 236) (x := e38) (bl := 0) (bh := 800) (nx := 249) (r1 := 11) (r2 := 4) (r3 := 0) rfl (by decide) rfl ⟨rfl, rfl⟩ rfl rfl g36 rfl (by omega) (fun h39 g39 w39 u39 => ?_)
                have F40 := F37.then rfl u39
                refine wi_return (nx := 250) (r1 := 0) (r2 := 0) (r3 := 0) rfl rfl ?_
                have e41 : h39 236 4 = e38 := w39
                have e42 : h39 236 6 = 3 := ((u39 236 6 rfl).trans ((u36 236 6 rfl).trans w34))
                exact k h39 g39 F40 (show (h 236 4) ≤ (h39 236 4) by omega) (show (h39 236 4) ≤ (h 236 3) by omega) (show (h39 236 6) = 0 ∨ (h 236 4) + 1 ≤ (h39 236 4) by omega)
          ·
            refine wi_iload_n (i := 0) (e := h 237 i10) (nx := 7) (r1 := 0) (r2 := 0) (r3 := 0) rfl rfl ?_
            refine wi_bipush (n := 57) (nx := 9) (r1 := 0) (r2 := 0) (r3 := 0) rfl (by decide) ?_
            refine wi_icmp (cd := .gt) (nx := 12) (r1 := 16) (r2 := 0) (r3 := 0) rfl (by omega) (by omega) (fun (q30 : 57 < (h 237 i10)) => ?_) (fun (q30 : ¬ (57 < (h 237 i10))) => ?_)
            ·
              refine wi_iconst (n := 0) (nx := 17) (r1 := 0) (r2 := 0) (r3 := 0) rfl ?_
              refine wi_zreturn (nx := 18) (r1 := 0) (r2 := 0) (r3 := 0) rfl rfl (by omega) ?_
              refine wk_i ?_
              refine wi_if (cd := .eq) (nx := 146) (r1 := 205) (r2 := 0) (r3 := 0) rfl (by omega) (fun (q31 : 0 = 0) => ?_) (fun (q31 : ¬ (0 = 0)) => by exfalso; omega)
              refine wi_aload_n (i := 0) (x := 236) (nx := 206) (r1 := 0) (r2 := 0) (r3 := 0) rfl rfl ?_
              refine wi_iload_n (i := 1) (e := h 237 i10) (nx := 207) (r1 := 0) (r2 := 0) (r3 := 0) rfl rfl ?_
              refine wi_bipush (n := 59) (nx := 209) (r1 := 0) (r2 := 0) (r3 := 0) rfl (by decide) ?_
              refine wi_icmp (cd := .eq) (nx := 212) (r1 := 224) (r2 := 0) (r3 := 0) rfl (by omega) (by omega) (fun (q32 : (h 237 i10) = 59) => ?_) (fun (q32 : ¬ ((h 237 i10) = 59)) => ?_)
              ·
                refine wi_iconst (n := 3) (nx := 225) (r1 := 0) (r2 := 0) (r3 := 0) rfl ?_
                refine wi_goto (nx := 228) (r1 := 229) (r2 := 0) (r3 := 0) rfl ?_
                refine wr_pf0 (k0 := 236) (x := 3) (bl := 0) (bh := 4) (nx := 232) (r1 := 11) (r2 := 6) (r3 := 0) rfl (by decide) rfl ⟨rfl, rfl⟩ rfl rfl g21 rfl (by omega) (fun h33 g33 w33 u33 => ?_)
                have F34 := F22.then rfl u33
                refine wi_aload_n (i := 0) (x := 236) (nx := 233) (r1 := 0) (r2 := 0) (r3 := 0) rfl rfl ?_
                refine wi_iload_n (i := 1) (e := h 237 i10) (nx := 234) (r1 := 0) (r2 := 0) (r3 := 0) rfl rfl ?_
                refine wr_pf0 (k0 := 236) (x := h 237 i10) (bl := 0) (bh := 999) (nx := 237) (r1 := 11) (r2 := 7) (r3 := 0) rfl (by decide) rfl ⟨rfl, rfl⟩ rfl rfl g33 rfl (by omega) (fun h35 g35 w35 u35 => ?_)
                have F36 := F34.then rfl u35
                refine wi_iconst (n := 1) (nx := 238) (r1 := 0) (r2 := 0) (r3 := 0) rfl ?_
                refine wi_istore_n (i := 2) (e := 1) (lo2 := [(2, vi 1), (1, vi (h 237 i10)), (0, .ref 236)]) (nx := 239) (r1 := 0) (r2 := 0) (r3 := 0) rfl rfl ?_
                refine wi_aload_n (i := 0) (x := 236) (nx := 240) (r1 := 0) (r2 := 0) (r3 := 0) rfl rfl ?_
                refine wi_dup (nx := 241) (r1 := 0) (r2 := 0) (r3 := 0) rfl rfl ?_
                refine wr_gi0 (k0 := 236) (x := h3 236 4) (nx := 244) (r1 := 11) (r2 := 4) (r3 := 0) rfl rfl (by decide) rfl ⟨rfl, rfl⟩ rfl ((u35 236 4 rfl).trans ((u33 236 4 rfl).trans ((u21 236 4 rfl).trans ((u19 236 4 rfl).trans (u17 236 4 rfl))))) ?_
                refine wi_iload_n (i := 2) (e := 1) (nx := 245) (r1 := 0) (r2 := 0) (r3 := 0) rfl rfl ?_
                refine wr_add (nx := 246) (r1 := 0) (r2 := 0) (r3 := 0) rfl (fun e37 (fe37 : e37 = (h3 236 4) + 1) => ?_)
                refine wr_pf0 (k0 := 236) (x := e37) (bl := 0) (bh := 800) (nx := 249) (r1 := 11) (r2 := 4) (r3 := 0) rfl (by decide) rfl ⟨rfl, rfl⟩ rfl rfl g35 rfl (by omega) (fun h38 g38 w38 u38 => ?_)
                have F39 := F36.then rfl u38
                refine wi_return (nx := 250) (r1 := 0) (r2 := 0) (r3 := 0) rfl rfl ?_
                have e40 : h38 236 4 = e37 := w38
                have e41 : h38 236 6 = 3 := ((u38 236 6 rfl).trans ((u35 236 6 rfl).trans w33))
                exact k h38 g38 F39 (show (h 236 4) ≤ (h38 236 4) by omega) (show (h38 236 4) ≤ (h 236 3) by omega) (show (h38 236 6) = 0 ∨ (h 236 4) + 1 ≤ (h38 236 4) by omega)
              ·
                refine wi_iload_n (i := 1) (e := h 237 i10) (nx := 213) (r1 := 0) (r2 := 0) (r3 := 0) rfl rfl ?_
                refine wi_bipush (n := 40) (nx := 215) (r1 := 0) (r2 := 0) (r3 := 0) rfl (by decide) ?_
                refine wi_icmp (cd := .eq) (nx := 218) (r1 := 224) (r2 := 0) (r3 := 0) rfl (by omega) (by omega) (fun (q33 : (h 237 i10) = 40) => by exfalso; omega) (fun (q33 : ¬ ((h 237 i10) = 40)) => ?_)
                refine wi_iload_n (i := 1) (e := h 237 i10) (nx := 219) (r1 := 0) (r2 := 0) (r3 := 0) rfl rfl ?_
                refine wi_bipush (n := 41) (nx := 221) (r1 := 0) (r2 := 0) (r3 := 0) rfl (by decide) ?_
                refine wi_icmp (cd := .ne) (nx := 224) (r1 := 228) (r2 := 0) (r3 := 0) rfl (by omega) (by omega) (fun (q34 : (h 237 i10) ≠ 41) => ?_) (fun (q34 : ¬ ((h 237 i10) ≠ 41)) => by exfalso; omega)
                refine wi_iconst (n := 4) (nx := 229) (r1 := 0) (r2 := 0) (r3 := 0) rfl ?_
                refine wr_pf0 (k0 := 236) (x := 4) (bl := 0) (bh := 4) (nx := 232) (r1 := 11) (r2 := 6) (r3 := 0) rfl (by decide) rfl ⟨rfl, rfl⟩ rfl rfl g21 rfl (by omega) (fun h35 g35 w35 u35 => ?_)
                have F36 := F22.then rfl u35
                refine wi_aload_n (i := 0) (x := 236) (nx := 233) (r1 := 0) (r2 := 0) (r3 := 0) rfl rfl ?_
                refine wi_iload_n (i := 1) (e := h 237 i10) (nx := 234) (r1 := 0) (r2 := 0) (r3 := 0) rfl rfl ?_
                refine wr_pf0 (k0 := 236) (x := h 237 i10) (bl := 0) (bh := 999) (nx := 237) (r1 := 11) (r2 := 7) (r3 := 0) rfl (by decide) rfl ⟨rfl, rfl⟩ rfl rfl g35 rfl (by omega) (fun h37 g37 w37 u37 => ?_)
                have F38 := F36.then rfl u37
                refine wi_iconst (n := 1) (nx := 238) (r1 := 0) (r2 := 0) (r3 := 0) rfl ?_
                refine wi_istore_n (i := 2) (e := 1) (lo2 := [(2, vi 1), (1, vi (h 237 i10)), (0, .ref 236)]) (nx := 239) (r1 := 0) (r2 := 0) (r3 := 0) rfl rfl ?_
                refine wi_aload_n (i := 0) (x := 236) (nx := 240) (r1 := 0) (r2 := 0) (r3 := 0) rfl rfl ?_
                refine wi_dup (nx := 241) (r1 := 0) (r2 := 0) (r3 := 0) rfl rfl ?_
                refine wr_gi0 (k0 := 236) (x := h3 236 4) (nx := 244) (r1 := 11) (r2 := 4) (r3 := 0) rfl rfl (by decide) rfl ⟨rfl, rfl⟩ rfl ((u37 236 4 rfl).trans ((u35 236 4 rfl).trans ((u21 236 4 rfl).trans ((u19 236 4 rfl).trans (u17 236 4 rfl))))) ?_
                refine wi_iload_n (i := 2) (e := 1) (nx := 245) (r1 := 0) (r2 := 0) (r3 := 0) rfl rfl ?_
                refine wr_add (nx := 246) (r1 := 0) (r2 := 0) (r3 := 0) rfl (fun e39 (fe39 : e39 = (h3 236 4) + 1) => ?_)
                refine wr_pf0 (k0 := 236) (x := e39) (bl := 0) (bh := 800) (nx := 249) (r1 := 11) (r2 := 4) (r3 := 0) rfl (by decide) rfl ⟨rfl, rfl⟩ rfl rfl g37 rfl (by omega) (fun h40 g40 w40 u40 => ?_)
                have F41 := F38.then rfl u40
                refine wi_return (nx := 250) (r1 := 0) (r2 := 0) (r3 := 0) rfl rfl ?_
                have e42 : h40 236 4 = e39 := w40
                have e43 : h40 236 6 = 4 := ((u40 236 6 rfl).trans ((u37 236 6 rfl).trans w35))
                exact k h40 g40 F41 (show (h 236 4) ≤ (h40 236 4) by omega) (show (h40 236 4) ≤ (h 236 3) by omega) (show (h40 236 6) = 0 ∨ (h 236 4) + 1 ≤ (h40 236 4) by omega)
            ·
              refine wi_iconst (n := 1) (nx := 13) (r1 := 0) (r2 := 0) (r3 := 0) rfl ?_
              refine wi_goto (nx := 16) (r1 := 17) (r2 := 0) (r3 := 0) rfl ?_
              refine wi_zreturn (nx := 18) (r1 := 0) (r2 := 0) (r3 := 0) rfl rfl (by omega) ?_
              refine wk_i ?_
              refine wi_if (cd := .eq) (nx := 146) (r1 := 205) (r2 := 0) (r3 := 0) rfl (by omega) (fun (q31 : 1 = 0) => by exfalso; omega) (fun (q31 : ¬ (1 = 0)) => ?_)
              refine wi_aload_n (i := 0) (x := 236) (nx := 147) (r1 := 0) (r2 := 0) (r3 := 0) rfl rfl ?_
              refine wi_iload_n (i := 2) (e := 0) (nx := 148) (r1 := 0) (r2 := 0) (r3 := 0) rfl rfl ?_
              refine wr_V (k0 := 236) (rest := []) (as := [.ref 236, vi 0]) (nx := 151) (r1 := 216) (r2 := 1) (r3 := 11) rfl rfl rfl (of_decide_eq_true rfl) rfl rfl (by decide) rfl rfl (of_decide_eq_true rfl) (of_decide_eq_true rfl) ?_
              refine wi_aload_n (i := 0) (x := 236) (nx := 1) (r1 := 0) (r2 := 0) (r3 := 0) rfl rfl ?_
              refine wr_gi0 (k0 := 236) (x := h3 236 4) (nx := 4) (r1 := 11) (r2 := 4) (r3 := 0) rfl rfl (by decide) rfl ⟨rfl, rfl⟩ rfl ((u21 236 4 rfl).trans ((u19 236 4 rfl).trans (u17 236 4 rfl))) ?_
              refine wi_iload_n (i := 1) (e := 0) (nx := 5) (r1 := 0) (r2 := 0) (r3 := 0) rfl rfl ?_
              refine wr_add (nx := 6) (r1 := 0) (r2 := 0) (r3 := 0) rfl (fun e32 (fe32 : e32 = (h3 236 4) + 0) => ?_)
              refine wi_aload_n (i := 0) (x := 236) (nx := 7) (r1 := 0) (r2 := 0) (r3 := 0) rfl rfl ?_
              refine wr_gi0 (k0 := 236) (x := h 236 3) (nx := 10) (r1 := 11) (r2 := 3) (r3 := 0) rfl rfl (by decide) rfl ⟨rfl, rfl⟩ rfl ((u21 236 3 rfl).trans ((u19 236 3 rfl).trans ((u17 236 3 rfl).trans (u3 236 3 rfl)))) ?_
              refine wi_icmp (cd := .ge) (nx := 13) (r1 := 27) (r2 := 0) (r3 := 0) rfl (by omega) (by omega) (fun (q33 : (h 236 3) ≤ e32) => by exfalso; omega) (fun (q33 : ¬ ((h 236 3) ≤ e32)) => ?_)
              refine wi_aload_n (i := 0) (x := 236) (nx := 14) (r1 := 0) (r2 := 0) (r3 := 0) rfl rfl ?_
              refine wr_gr (k0 := 236) (x := 237) (nx := 17) (r1 := 11) (r2 := 1) (r3 := 0) rfl rfl (by decide) rfl ⟨rfl, rfl⟩ rfl ?_
              refine wi_aload_n (i := 0) (x := 236) (nx := 18) (r1 := 0) (r2 := 0) (r3 := 0) rfl rfl ?_
              refine wr_gi0 (k0 := 236) (x := h3 236 4) (nx := 21) (r1 := 11) (r2 := 4) (r3 := 0) rfl rfl (by decide) rfl ⟨rfl, rfl⟩ rfl ((u21 236 4 rfl).trans ((u19 236 4 rfl).trans (u17 236 4 rfl))) ?_
              refine wi_iload_n (i := 1) (e := 0) (nx := 22) (r1 := 0) (r2 := 0) (r3 := 0) rfl rfl ?_
              refine wr_add (nx := 23) (r1 := 0) (r2 := 0) (r3 := 0) rfl (fun e34 (fe34 : e34 = (h3 236 4) + 0) => ?_)
              refine wr_ia (k0 := 237) (a := e34) (f := i10) (x := h 237 i10) (nx := 24) (r1 := 0) (r2 := 0) (r3 := 0) rfl (by decide) rfl (by omega) (by omega) (by decide) ((u21 237 i10 (fn_a (by omega) fn_0)).trans ((u19 237 i10 (fn_a (by omega) fn_0)).trans ((u17 237 i10 (fn_a (by omega) fn_0)).trans (u3 237 i10 (fn_a (by omega) fn_0))))) ?_
              refine wi_goto (nx := 27) (r1 := 28) (r2 := 0) (r3 := 0) rfl ?_
              refine wi_ireturn (nx := 29) (r1 := 0) (r2 := 0) (r3 := 0) rfl rfl ?_
              refine wk_i ?_
              refine wi_S (rest := []) (as := [vi (h 237 i10)]) (nx := 154) (r1 := 218) (r2 := 17) (r3 := 0) rfl rfl rfl (of_decide_eq_true rfl) rfl rfl (of_decide_eq_true rfl) (of_decide_eq_true rfl) ?_
              refine wi_iload_n (i := 0) (e := h 237 i10) (nx := 1) (r1 := 0) (r2 := 0) (r3 := 0) rfl rfl ?_
              refine wi_bipush (n := 48) (nx := 3) (r1 := 0) (r2 := 0) (r3 := 0) rfl (by decide) ?_
              refine wi_icmp (cd := .lt) (nx := 6) (r1 := 16) (r2 := 0) (r3 := 0) rfl (by omega) (by omega) (fun (q35 : (h 237 i10) < 48) => by exfalso; omega) (fun (q35 : ¬ ((h 237 i10) < 48)) => ?_)
              refine wi_iload_n (i := 0) (e := h 237 i10) (nx := 7) (r1 := 0) (r2 := 0) (r3 := 0) rfl rfl ?_
              refine wi_bipush (n := 57) (nx := 9) (r1 := 0) (r2 := 0) (r3 := 0) rfl (by decide) ?_
              refine wi_icmp (cd := .gt) (nx := 12) (r1 := 16) (r2 := 0) (r3 := 0) rfl (by omega) (by omega) (fun (q36 : 57 < (h 237 i10)) => by exfalso; omega) (fun (q36 : ¬ (57 < (h 237 i10))) => ?_)
              refine wi_iconst (n := 1) (nx := 13) (r1 := 0) (r2 := 0) (r3 := 0) rfl ?_
              refine wi_goto (nx := 16) (r1 := 17) (r2 := 0) (r3 := 0) rfl ?_
              refine wi_zreturn (nx := 18) (r1 := 0) (r2 := 0) (r3 := 0) rfl rfl (by omega) ?_
              refine wk_i ?_
              refine wi_if (cd := .eq) (nx := 157) (r1 := 188) (r2 := 0) (r3 := 0) rfl (by omega) (fun (q37 : 1 = 0) => by exfalso; omega) (fun (q37 : ¬ (1 = 0)) => ?_)
              refine wi_iload_n (i := 2) (e := 0) (nx := 158) (r1 := 0) (r2 := 0) (r3 := 0) rfl rfl ?_
              refine wi_iconst (n := 3) (nx := 159) (r1 := 0) (r2 := 0) (r3 := 0) rfl ?_
              refine wi_icmp (cd := .ge) (nx := 162) (r1 := 182) (r2 := 0) (r3 := 0) rfl (by omega) (by omega) (fun (q38 : 3 ≤ 0) => by exfalso; omega) (fun (q38 : ¬ (3 ≤ 0)) => ?_)
              refine wi_aload_n (i := 0) (x := 236) (nx := 163) (r1 := 0) (r2 := 0) (r3 := 0) rfl rfl ?_
              refine wi_bipush (n := 10) (nx := 165) (r1 := 0) (r2 := 0) (r3 := 0) rfl (by decide) ?_
              refine wi_aload_n (i := 0) (x := 236) (nx := 166) (r1 := 0) (r2 := 0) (r3 := 0) rfl rfl ?_
              refine wr_gi0 (k0 := 236) (x := 0) (nx := 169) (r1 := 11) (r2 := 7) (r3 := 0) rfl rfl (by decide) rfl ⟨rfl, rfl⟩ rfl w21 ?_
              refine wr_mulL (0) (nx := 170) (r1 := 0) (r2 := 0) (r3 := 0) rfl (by decide) ?_
              refine wi_aload_n (i := 0) (x := 236) (nx := 171) (r1 := 0) (r2 := 0) (r3 := 0) rfl rfl ?_
              refine wi_iload_n (i := 2) (e := 0) (nx := 172) (r1 := 0) (r2 := 0) (r3 := 0) rfl rfl ?_
              refine wr_V (k0 := 236) (rest := [vi 0, .ref 236]) (as := [.ref 236, vi 0]) (nx := 175) (r1 := 216) (r2 := 1) (r3 := 11) rfl rfl rfl (of_decide_eq_true rfl) rfl rfl (by decide) rfl rfl (of_decide_eq_true rfl) (of_decide_eq_true rfl) ?_
              refine wi_aload_n (i := 0) (x := 236) (nx := 1) (r1 := 0) (r2 := 0) (r3 := 0) rfl rfl ?_
              refine wr_gi0 (k0 := 236) (x := h3 236 4) (nx := 4) (r1 := 11) (r2 := 4) (r3 := 0) rfl rfl (by decide) rfl ⟨rfl, rfl⟩ rfl ((u21 236 4 rfl).trans ((u19 236 4 rfl).trans (u17 236 4 rfl))) ?_
              refine wi_iload_n (i := 1) (e := 0) (nx := 5) (r1 := 0) (r2 := 0) (r3 := 0) rfl rfl ?_
              refine wr_add (nx := 6) (r1 := 0) (r2 := 0) (r3 := 0) rfl (fun e39 (fe39 : e39 = (h3 236 4) + 0) => ?_)
              refine wi_aload_n (i := 0) (x := 236) (nx := 7) (r1 := 0) (r2 := 0) (r3 := 0) rfl rfl ?_
              refine wr_gi0 (k0 := 236) (x := h 236 3) (nx := 10) (r1 := 11) (r2 := 3) (r3 := 0) rfl rfl (by decide) rfl ⟨rfl, rfl⟩ rfl ((u21 236 3 rfl).trans ((u19 236 3 rfl).trans ((u17 236 3 rfl).trans (u3 236 3 rfl)))) ?_
              refine wi_icmp (cd := .ge) (nx := 13) (r1 := 27) (r2 := 0) (r3 := 0) rfl (by omega) (by omega) (fun (q40 : (h 236 3) ≤ e39) => by exfalso; omega) (fun (q40 : ¬ ((h 236 3) ≤ e39)) => ?_)
              refine wi_aload_n (i := 0) (x := 236) (nx := 14) (r1 := 0) (r2 := 0) (r3 := 0) rfl rfl ?_
              refine wr_gr (k0 := 236) (x := 237) (nx := 17) (r1 := 11) (r2 := 1) (r3 := 0) rfl rfl (by decide) rfl ⟨rfl, rfl⟩ rfl ?_
              refine wi_aload_n (i := 0) (x := 236) (nx := 18) (r1 := 0) (r2 := 0) (r3 := 0) rfl rfl ?_
              refine wr_gi0 (k0 := 236) (x := h3 236 4) (nx := 21) (r1 := 11) (r2 := 4) (r3 := 0) rfl rfl (by decide) rfl ⟨rfl, rfl⟩ rfl ((u21 236 4 rfl).trans ((u19 236 4 rfl).trans (u17 236 4 rfl))) ?_
              refine wi_iload_n (i := 1) (e := 0) (nx := 22) (r1 := 0) (r2 := 0) (r3 := 0) rfl rfl ?_
              refine wr_add (nx := 23) (r1 := 0) (r2 := 0) (r3 := 0) rfl (fun e41 (fe41 : e41 = (h3 236 4) + 0) => ?_)
              refine wr_ia (k0 := 237) (a := e41) (f := i10) (x := h 237 i10) (nx := 24) (r1 := 0) (r2 := 0) (r3 := 0) rfl (by decide) rfl (by omega) (by omega) (by decide) ((u21 237 i10 (fn_a (by omega) fn_0)).trans ((u19 237 i10 (fn_a (by omega) fn_0)).trans ((u17 237 i10 (fn_a (by omega) fn_0)).trans (u3 237 i10 (fn_a (by omega) fn_0))))) ?_
              refine wi_goto (nx := 27) (r1 := 28) (r2 := 0) (r3 := 0) rfl ?_
              refine wi_ireturn (nx := 29) (r1 := 0) (r2 := 0) (r3 := 0) rfl rfl ?_
              refine wk_i ?_
              refine wr_add (nx := 176) (r1 := 0) (r2 := 0) (r3 := 0) rfl (fun e42 (fe42 : e42 = 0 + (h 237 i10)) => ?_)
              refine wi_bipush (n := 48) (nx := 178) (r1 := 0) (r2 := 0) (r3 := 0) rfl (by decide) ?_
              refine wr_sub (nx := 179) (r1 := 0) (r2 := 0) (r3 := 0) rfl (fun e43 (fe43 : e43 = e42 - 48) => ?_)
              refine wr_pf0 (k0 := 236) (x := e43) (bl := 0) (bh := 999) (nx := 182) (r1 := 11) (r2 := 7) (r3 := 0) rfl (by decide) rfl ⟨rfl, rfl⟩ rfl rfl g21 rfl (by omega) (fun h44 g44 w44 u44 => ?_)
              have F45 := F22.then rfl u44
              refine wr_iincL (i := 2) (n := 1) (v := 0) (1) ([(2, vi 1), (1, vi (h 237 i10)), (0, .ref 236)]) (nx := 185) (r1 := 0) (r2 := 0) (r3 := 0) rfl rfl (by decide) rfl ?_
              refine wi_goto (nx := 188) (r1 := 146) (r2 := 0) (r3 := 0) rfl ?_
              refine wi_aload_n (i := 0) (x := 236) (nx := 147) (r1 := 0) (r2 := 0) (r3 := 0) rfl rfl ?_
              refine wi_iload_n (i := 2) (e := 1) (nx := 148) (r1 := 0) (r2 := 0) (r3 := 0) rfl rfl ?_
              refine wr_V (k0 := 236) (rest := []) (as := [.ref 236, vi 1]) (nx := 151) (r1 := 216) (r2 := 1) (r3 := 11) rfl rfl rfl (of_decide_eq_true rfl) rfl rfl (by decide) rfl rfl (of_decide_eq_true rfl) (of_decide_eq_true rfl) ?_
              refine wi_aload_n (i := 0) (x := 236) (nx := 1) (r1 := 0) (r2 := 0) (r3 := 0) rfl rfl ?_
              refine wr_gi0 (k0 := 236) (x := h3 236 4) (nx := 4) (r1 := 11) (r2 := 4) (r3 := 0) rfl rfl (by decide) rfl ⟨rfl, rfl⟩ rfl ((u44 236 4 rfl).trans ((u21 236 4 rfl).trans ((u19 236 4 rfl).trans (u17 236 4 rfl)))) ?_
              refine wi_iload_n (i := 1) (e := 1) (nx := 5) (r1 := 0) (r2 := 0) (r3 := 0) rfl rfl ?_
              refine wr_add (nx := 6) (r1 := 0) (r2 := 0) (r3 := 0) rfl (fun e46 (fe46 : e46 = (h3 236 4) + 1) => ?_)
              refine wi_aload_n (i := 0) (x := 236) (nx := 7) (r1 := 0) (r2 := 0) (r3 := 0) rfl rfl ?_
              refine wr_gi0 (k0 := 236) (x := h 236 3) (nx := 10) (r1 := 11) (r2 := 3) (r3 := 0) rfl rfl (by decide) rfl ⟨rfl, rfl⟩ rfl ((u44 236 3 rfl).trans ((u21 236 3 rfl).trans ((u19 236 3 rfl).trans ((u17 236 3 rfl).trans (u3 236 3 rfl))))) ?_
              refine wi_icmp (cd := .ge) (nx := 13) (r1 := 27) (r2 := 0) (r3 := 0) rfl (by omega) (by omega) (fun (q47 : (h 236 3) ≤ e46) => ?_) (fun (q47 : ¬ ((h 236 3) ≤ e46)) => ?_)
              ·
                refine wi_iconst (n := (-1)) (nx := 28) (r1 := 0) (r2 := 0) (r3 := 0) rfl ?_
                refine wi_ireturn (nx := 29) (r1 := 0) (r2 := 0) (r3 := 0) rfl rfl ?_
                refine wk_i ?_
                refine wi_S (rest := []) (as := [vi (-1)]) (nx := 154) (r1 := 218) (r2 := 17) (r3 := 0) rfl rfl rfl (of_decide_eq_true rfl) rfl rfl (of_decide_eq_true rfl) (of_decide_eq_true rfl) ?_
                refine wi_iload_n (i := 0) (e := -1) (nx := 1) (r1 := 0) (r2 := 0) (r3 := 0) rfl rfl ?_
                refine wi_bipush (n := 48) (nx := 3) (r1 := 0) (r2 := 0) (r3 := 0) rfl (by decide) ?_
                refine wi_icmp (cd := .lt) (nx := 6) (r1 := 16) (r2 := 0) (r3 := 0) rfl (by omega) (by omega) (fun (q48 : (-1) < 48) => ?_) (fun (q48 : ¬ ((-1) < 48)) => by exfalso; omega)
                refine wi_iconst (n := 0) (nx := 17) (r1 := 0) (r2 := 0) (r3 := 0) rfl ?_
                refine wi_zreturn (nx := 18) (r1 := 0) (r2 := 0) (r3 := 0) rfl rfl (by omega) ?_
                refine wk_i ?_
                refine wi_if (cd := .eq) (nx := 157) (r1 := 188) (r2 := 0) (r3 := 0) rfl (by omega) (fun (q49 : 0 = 0) => ?_) (fun (q49 : ¬ (0 = 0)) => by exfalso; omega)
                refine wi_aload_n (i := 0) (x := 236) (nx := 189) (r1 := 0) (r2 := 0) (r3 := 0) rfl rfl ?_
                refine wi_iload_n (i := 2) (e := 1) (nx := 190) (r1 := 0) (r2 := 0) (r3 := 0) rfl rfl ?_
                refine wi_iconst (n := 3) (nx := 191) (r1 := 0) (r2 := 0) (r3 := 0) rfl ?_
                refine wi_icmp (cd := .le) (nx := 194) (r1 := 198) (r2 := 0) (r3 := 0) rfl (by omega) (by omega) (fun (q50 : 1 ≤ 3) => ?_) (fun (q50 : ¬ (1 ≤ 3)) => by exfalso; omega)
                refine wi_iconst (n := 2) (nx := 199) (r1 := 0) (r2 := 0) (r3 := 0) rfl ?_
                refine wr_pf0 (k0 := 236) (x := 2) (bl := 0) (bh := 4) (nx := 202) (r1 := 11) (r2 := 6) (r3 := 0) rfl (by decide) rfl ⟨rfl, rfl⟩ rfl rfl g44 rfl (by omega) (fun h51 g51 w51 u51 => ?_)
                have F52 := F45.then rfl u51
                refine wi_goto (nx := 205) (r1 := 239) (r2 := 0) (r3 := 0) rfl ?_
                refine wi_aload_n (i := 0) (x := 236) (nx := 240) (r1 := 0) (r2 := 0) (r3 := 0) rfl rfl ?_
                refine wi_dup (nx := 241) (r1 := 0) (r2 := 0) (r3 := 0) rfl rfl ?_
                refine wr_gi0 (k0 := 236) (x := h3 236 4) (nx := 244) (r1 := 11) (r2 := 4) (r3 := 0) rfl rfl (by decide) rfl ⟨rfl, rfl⟩ rfl ((u51 236 4 rfl).trans ((u44 236 4 rfl).trans ((u21 236 4 rfl).trans ((u19 236 4 rfl).trans (u17 236 4 rfl))))) ?_
                refine wi_iload_n (i := 2) (e := 1) (nx := 245) (r1 := 0) (r2 := 0) (r3 := 0) rfl rfl ?_
                refine wr_add (nx := 246) (r1 := 0) (r2 := 0) (r3 := 0) rfl (fun e53 (fe53 : e53 = (h3 236 4) + 1) => ?_)
                refine wr_pf0 (k0 := 236) (x := e53) (bl := 0) (bh := 800) (nx := 249) (r1 := 11) (r2 := 4) (r3 := 0) rfl (by decide) rfl ⟨rfl, rfl⟩ rfl rfl g51 rfl (by omega) (fun h54 g54 w54 u54 => ?_)
                have F55 := F52.then rfl u54
                refine wi_return (nx := 250) (r1 := 0) (r2 := 0) (r3 := 0) rfl rfl ?_
                have e56 : h54 236 4 = e53 := w54
                have e57 : h54 236 6 = 2 := ((u54 236 6 rfl).trans w51)
                exact k h54 g54 F55 (show (h 236 4) ≤ (h54 236 4) by omega) (show (h54 236 4) ≤ (h 236 3) by omega) (show (h54 236 6) = 0 ∨ (h 236 4) + 1 ≤ (h54 236 4) by omega)
              ·
                refine wi_aload_n (i := 0) (x := 236) (nx := 14) (r1 := 0) (r2 := 0) (r3 := 0) rfl rfl ?_
                refine wr_gr (k0 := 236) (x := 237) (nx := 17) (r1 := 11) (r2 := 1) (r3 := 0) rfl rfl (by decide) rfl ⟨rfl, rfl⟩ rfl ?_
                refine wi_aload_n (i := 0) (x := 236) (nx := 18) (r1 := 0) (r2 := 0) (r3 := 0) rfl rfl ?_
                refine wr_gi0 (k0 := 236) (x := h3 236 4) (nx := 21) (r1 := 11) (r2 := 4) (r3 := 0) rfl rfl (by decide) rfl ⟨rfl, rfl⟩ rfl ((u44 236 4 rfl).trans ((u21 236 4 rfl).trans ((u19 236 4 rfl).trans (u17 236 4 rfl)))) ?_
                refine wi_iload_n (i := 1) (e := 1) (nx := 22) (r1 := 0) (r2 := 0) (r3 := 0) rfl rfl ?_
                refine wr_add (nx := 23) (r1 := 0) (r2 := 0) (r3 := 0) rfl (fun e48 (fe48 : e48 = (h3 236 4) + 1) => ?_)
                obtain ⟨i49, ei49⟩ : ∃ q : Nat, e48 = (q : Int) := ⟨(e48).toNat, by omega⟩
                have b50 := gi_b (lo := 0) (hi := 255) g 237 i49 rfl
                refine wr_ia (k0 := 237) (a := e48) (f := i49) (x := h 237 i49) (nx := 24) (r1 := 0) (r2 := 0) (r3 := 0) rfl (by decide) rfl (by omega) (by omega) (by decide) ((u44 237 i49 (fn_a (by omega) fn_0)).trans ((u21 237 i49 (fn_a (by omega) fn_0)).trans ((u19 237 i49 (fn_a (by omega) fn_0)).trans ((u17 237 i49 (fn_a (by omega) fn_0)).trans (u3 237 i49 (fn_a (by omega) fn_0)))))) ?_
                refine wi_goto (nx := 27) (r1 := 28) (r2 := 0) (r3 := 0) rfl ?_
                refine wi_ireturn (nx := 29) (r1 := 0) (r2 := 0) (r3 := 0) rfl rfl ?_
                refine wk_i ?_
                refine wi_S (rest := []) (as := [vi (h 237 i49)]) (nx := 154) (r1 := 218) (r2 := 17) (r3 := 0) rfl rfl rfl (of_decide_eq_true rfl) rfl rfl (of_decide_eq_true rfl) (of_decide_eq_true rfl) ?_
                refine wi_iload_n (i := 0) (e := h 237 i49) (nx := 1) (r1 := 0) (r2 := 0) (r3 := 0) rfl rfl ?_
                refine wi_bipush (n := 48) (nx := 3) (r1 := 0) (r2 := 0) (r3 := 0) rfl (by decide) ?_
                refine wi_icmp (cd := .lt) (nx := 6) (r1 := 16) (r2 := 0) (r3 := 0) rfl (by omega) (by omega) (fun (q51 : (h 237 i49) < 48) => ?_) (fun (q51 : ¬ ((h 237 i49) < 48)) => ?_)
                ·
                  refine wi_iconst (n := 0) (nx := 17) (r1 := 0) (r2 := 0) (r3 := 0) rfl ?_
                  refine wi_zreturn (nx := 18) (r1 := 0) (r2 := 0) (r3 := 0) rfl rfl (by omega) ?_
                  refine wk_i ?_
                  refine wi_if (cd := .eq) (nx := 157) (r1 := 188) (r2 := 0) (r3 := 0) rfl (by omega) (fun (q52 : 0 = 0) => ?_) (fun (q52 : ¬ (0 = 0)) => by exfalso; omega)
                  refine wi_aload_n (i := 0) (x := 236) (nx := 189) (r1 := 0) (r2 := 0) (r3 := 0) rfl rfl ?_
                  refine wi_iload_n (i := 2) (e := 1) (nx := 190) (r1 := 0) (r2 := 0) (r3 := 0) rfl rfl ?_
                  refine wi_iconst (n := 3) (nx := 191) (r1 := 0) (r2 := 0) (r3 := 0) rfl ?_
                  refine wi_icmp (cd := .le) (nx := 194) (r1 := 198) (r2 := 0) (r3 := 0) rfl (by omega) (by omega) (fun (q53 : 1 ≤ 3) => ?_) (fun (q53 : ¬ (1 ≤ 3)) => by exfalso; omega)
                  refine wi_iconst (n := 2) (nx := 199) (r1 := 0) (r2 := 0) (r3 := 0) rfl ?_
                  refine wr_pf0 (k0 := 236) (x := 2) (bl := 0) (bh := 4) (nx := 202) (r1 := 11) (r2 := 6) (r3 := 0) rfl (by decide) rfl ⟨rfl, rfl⟩ rfl rfl g44 rfl (by omega) (fun h54 g54 w54 u54 => ?_)
                  have F55 := F45.then rfl u54
                  refine wi_goto (nx := 205) (r1 := 239) (r2 := 0) (r3 := 0) rfl ?_
                  refine wi_aload_n (i := 0) (x := 236) (nx := 240) (r1 := 0) (r2 := 0) (r3 := 0) rfl rfl ?_
                  refine wi_dup (nx := 241) (r1 := 0) (r2 := 0) (r3 := 0) rfl rfl ?_
                  refine wr_gi0 (k0 := 236) (x := h3 236 4) (nx := 244) (r1 := 11) (r2 := 4) (r3 := 0) rfl rfl (by decide) rfl ⟨rfl, rfl⟩ rfl ((u54 236 4 rfl).trans ((u44 236 4 rfl).trans ((u21 236 4 rfl).trans ((u19 236 4 rfl).trans (u17 236 4 rfl))))) ?_
                  refine wi_iload_n (i := 2) (e := 1) (nx := 245) (r1 := 0) (r2 := 0) (r3 := 0) rfl rfl ?_
                  refine wr_add (nx := 246) (r1 := 0) (r2 := 0) (r3 := 0) rfl (fun e56 (fe56 : e56 = (h3 236 4) + 1) => ?_)
                  refine wr_pf0 (k0 := 236) (x := e56) (bl := 0) (bh := 800) (nx := 249) (r1 := 11) (r2 := 4) (r3 := 0) rfl (by decide) rfl ⟨rfl, rfl⟩ rfl rfl g54 rfl (by omega) (fun h57 g57 w57 u57 => ?_)
                  have F58 := F55.then rfl u57
                  refine wi_return (nx := 250) (r1 := 0) (r2 := 0) (r3 := 0) rfl rfl ?_
                  have e59 : h57 236 4 = e56 := w57
                  have e60 : h57 236 6 = 2 := ((u57 236 6 rfl).trans w54)
                  exact k h57 g57 F58 (show (h 236 4) ≤ (h57 236 4) by omega) (show (h57 236 4) ≤ (h 236 3) by omega) (show (h57 236 6) = 0 ∨ (h 236 4) + 1 ≤ (h57 236 4) by omega)
                ·
                  refine wi_iload_n (i := 0) (e := h 237 i49) (nx := 7) (r1 := 0) (r2 := 0) (r3 := 0) rfl rfl ?_
                  refine wi_bipush (n := 57) (nx := 9) (r1 := 0) (r2 := 0) (r3 := 0) rfl (by decide) ?_
                  refine wi_icmp (cd := .gt) (nx := 12) (r1 := 16) (r2 := 0) (r3 := 0) rfl (by omega) (by omega) (fun (q52 : 57 < (h 237 i49)) => ?_) (fun (q52 : ¬ (57 < (h 237 i49))) => ?_)
                  ·
                    refine wi_iconst (n := 0) (nx := 17) (r1 := 0) (r2 := 0) (r3 := 0) rfl ?_
                    refine wi_zreturn (nx := 18) (r1 := 0) (r2 := 0) (r3 := 0) rfl rfl (by omega) ?_
                    refine wk_i ?_
                    refine wi_if (cd := .eq) (nx := 157) (r1 := 188) (r2 := 0) (r3 := 0) rfl (by omega) (fun (q53 : 0 = 0) => ?_) (fun (q53 : ¬ (0 = 0)) => by exfalso; omega)
                    refine wi_aload_n (i := 0) (x := 236) (nx := 189) (r1 := 0) (r2 := 0) (r3 := 0) rfl rfl ?_
                    refine wi_iload_n (i := 2) (e := 1) (nx := 190) (r1 := 0) (r2 := 0) (r3 := 0) rfl rfl ?_
                    refine wi_iconst (n := 3) (nx := 191) (r1 := 0) (r2 := 0) (r3 := 0) rfl ?_
                    refine wi_icmp (cd := .le) (nx := 194) (r1 := 198) (r2 := 0) (r3 := 0) rfl (by omega) (by omega) (fun (q54 : 1 ≤ 3) => ?_) (fun (q54 : ¬ (1 ≤ 3)) => by exfalso; omega)
                    refine wi_iconst (n := 2) (nx := 199) (r1 := 0) (r2 := 0) (r3 := 0) rfl ?_
                    refine wr_pf0 (k0 := 236) (x := 2) (bl := 0) (bh := 4) (nx := 202) (r1 := 11) (r2 := 6) (r3 := 0) rfl (by decide) rfl ⟨rfl, rfl⟩ rfl rfl g44 rfl (by omega) (fun h55 g55 w55 u55 => ?_)
                    have F56 := F45.then rfl u55
                    refine wi_goto (nx := 205) (r1 := 239) (r2 := 0) (r3 := 0) rfl ?_
                    refine wi_aload_n (i := 0) (x := 236) (nx := 240) (r1 := 0) (r2 := 0) (r3 := 0) rfl rfl ?_
                    refine wi_dup (nx := 241) (r1 := 0) (r2 := 0) (r3 := 0) rfl rfl ?_
                    refine wr_gi0 (k0 := 236) (x := h3 236 4) (nx := 244) (r1 := 11) (r2 := 4) (r3 := 0) rfl rfl (by decide) rfl ⟨rfl, rfl⟩ rfl ((u55 236 4 rfl).trans ((u44 236 4 rfl).trans ((u21 236 4 rfl).trans ((u19 236 4 rfl).trans (u17 236 4 rfl))))) ?_
                    refine wi_iload_n (i := 2) (e := 1) (nx := 245) (r1 := 0) (r2 := 0) (r3 := 0) rfl rfl ?_
                    refine wr_add (nx := 246) (r1 := 0) (r2 := 0) (r3 := 0) rfl (fun e57 (fe57 : e57 = (h3 236 4) + 1) => ?_)
                    refine wr_pf0 (k0 := 236) (x := e57) (bl := 0) (bh := 800) (nx := 249) (r1 := 11) (r2 := 4) (r3 := 0) rfl (by decide) rfl ⟨rfl, rfl⟩ rfl rfl g55 rfl (by omega) (fun h58 g58 w58 u58 => ?_)
                    have F59 := F56.then rfl u58
                    refine wi_return (nx := 250) (r1 := 0) (r2 := 0) (r3 := 0) rfl rfl ?_
                    have e60 : h58 236 4 = e57 := w58
                    have e61 : h58 236 6 = 2 := ((u58 236 6 rfl).trans w55)
                    exact k h58 g58 F59 (show (h 236 4) ≤ (h58 236 4) by omega) (show (h58 236 4) ≤ (h 236 3) by omega) (show (h58 236 6) = 0 ∨ (h 236 4) + 1 ≤ (h58 236 4) by omega)
                  ·
                    refine wi_iconst (n := 1) (nx := 13) (r1 := 0) (r2 := 0) (r3 := 0) rfl ?_
                    refine wi_goto (nx := 16) (r1 := 17) (r2 := 0) (r3 := 0) rfl ?_
                    refine wi_zreturn (nx := 18) (r1 := 0) (r2 := 0) (r3 := 0) rfl rfl (by omega) ?_
                    refine wk_i ?_
                    refine wi_if (cd := .eq) (nx := 157) (r1 := 188) (r2 := 0) (r3 := 0) rfl (by omega) (fun (q53 : 1 = 0) => by exfalso; omega) (fun (q53 : ¬ (1 = 0)) => ?_)
                    refine wi_iload_n (i := 2) (e := 1) (nx := 158) (r1 := 0) (r2 := 0) (r3 := 0) rfl rfl ?_
                    refine wi_iconst (n := 3) (nx := 159) (r1 := 0) (r2 := 0) (r3 := 0) rfl ?_
                    refine wi_icmp (cd := .ge) (nx := 162) (r1 := 182) (r2 := 0) (r3 := 0) rfl (by omega) (by omega) (fun (q54 : 3 ≤ 1) => by exfalso; omega) (fun (q54 : ¬ (3 ≤ 1)) => ?_)
                    refine wi_aload_n (i := 0) (x := 236) (nx := 163) (r1 := 0) (r2 := 0) (r3 := 0) rfl rfl ?_
                    refine wi_bipush (n := 10) (nx := 165) (r1 := 0) (r2 := 0) (r3 := 0) rfl (by decide) ?_
                    refine wi_aload_n (i := 0) (x := 236) (nx := 166) (r1 := 0) (r2 := 0) (r3 := 0) rfl rfl ?_
                    refine wr_gi0 (k0 := 236) (x := e43) (nx := 169) (r1 := 11) (r2 := 7) (r3 := 0) rfl rfl (by decide) rfl ⟨rfl, rfl⟩ rfl w44 ?_
                    refine wr_mul (nx := 170) (r1 := 0) (r2 := 0) (r3 := 0) rfl (fun e55 (fe55 : e55 = 10 * e43) => ?_)
                    refine wi_aload_n (i := 0) (x := 236) (nx := 171) (r1 := 0) (r2 := 0) (r3 := 0) rfl rfl ?_
                    refine wi_iload_n (i := 2) (e := 1) (nx := 172) (r1 := 0) (r2 := 0) (r3 := 0) rfl rfl ?_
                    refine wr_V (k0 := 236) (rest := [vi e55, .ref 236]) (as := [.ref 236, vi 1]) (nx := 175) (r1 := 216) (r2 := 1) (r3 := 11) rfl rfl rfl (of_decide_eq_true rfl) rfl rfl (by decide) rfl rfl (of_decide_eq_true rfl) (of_decide_eq_true rfl) ?_
                    refine wi_aload_n (i := 0) (x := 236) (nx := 1) (r1 := 0) (r2 := 0) (r3 := 0) rfl rfl ?_
                    refine wr_gi0 (k0 := 236) (x := h3 236 4) (nx := 4) (r1 := 11) (r2 := 4) (r3 := 0) rfl rfl (by decide) rfl ⟨rfl, rfl⟩ rfl ((u44 236 4 rfl).trans ((u21 236 4 rfl).trans ((u19 236 4 rfl).trans (u17 236 4 rfl)))) ?_
                    refine wi_iload_n (i := 1) (e := 1) (nx := 5) (r1 := 0) (r2 := 0) (r3 := 0) rfl rfl ?_
                    refine wr_add (nx := 6) (r1 := 0) (r2 := 0) (r3 := 0) rfl (fun e56 (fe56 : e56 = (h3 236 4) + 1) => ?_)
                    refine wi_aload_n (i := 0) (x := 236) (nx := 7) (r1 := 0) (r2 := 0) (r3 := 0) rfl rfl ?_
                    refine wr_gi0 (k0 := 236) (x := h 236 3) (nx := 10) (r1 := 11) (r2 := 3) (r3 := 0) rfl rfl (by decide) rfl ⟨rfl, rfl⟩ rfl ((u44 236 3 rfl).trans ((u21 236 3 rfl).trans ((u19 236 3 rfl).trans ((u17 236 3 rfl).trans (u3 236 3 rfl))))) ?_
                    refine wi_icmp (cd := .ge) (nx := 13) (r1 := 27) (r2 := 0) (r3 := 0) rfl (by omega) (by omega) (fun (q57 : (h 236 3) ≤ e56) => by exfalso; omega) (fun (q57 : ¬ ((h 236 3) ≤ e56)) => ?_)
                    refine wi_aload_n (i := 0) (x := 236) (nx := 14) (r1 := 0) (r2 := 0) (r3 := 0) rfl rfl ?_
                    refine wr_gr (k0 := 236) (x := 237) (nx := 17) (r1 := 11) (r2 := 1) (r3 := 0) rfl rfl (by decide) rfl ⟨rfl, rfl⟩ rfl ?_
                    refine wi_aload_n (i := 0) (x := 236) (nx := 18) (r1 := 0) (r2 := 0) (r3 := 0) rfl rfl ?_
                    refine wr_gi0 (k0 := 236) (x := h3 236 4) (nx := 21) (r1 := 11) (r2 := 4) (r3 := 0) rfl rfl (by decide) rfl ⟨rfl, rfl⟩ rfl ((u44 236 4 rfl).trans ((u21 236 4 rfl).trans ((u19 236 4 rfl).trans (u17 236 4 rfl)))) ?_
                    refine wi_iload_n (i := 1) (e := 1) (nx := 22) (r1 := 0) (r2 := 0) (r3 := 0) rfl rfl ?_
                    refine wr_add (nx := 23) (r1 := 0) (r2 := 0) (r3 := 0) rfl (fun e58 (fe58 : e58 = (h3 236 4) + 1) => ?_)
                    refine wr_ia (k0 := 237) (a := e58) (f := i49) (x := h 237 i49) (nx := 24) (r1 := 0) (r2 := 0) (r3 := 0) rfl (by decide) rfl (by omega) (by omega) (by decide) ((u44 237 i49 (fn_a (by omega) fn_0)).trans ((u21 237 i49 (fn_a (by omega) fn_0)).trans ((u19 237 i49 (fn_a (by omega) fn_0)).trans ((u17 237 i49 (fn_a (by omega) fn_0)).trans (u3 237 i49 (fn_a (by omega) fn_0)))))) ?_
                    refine wi_goto (nx := 27) (r1 := 28) (r2 := 0) (r3 := 0) rfl ?_
                    refine wi_ireturn (nx := 29) (r1 := 0) (r2 := 0) (r3 := 0) rfl rfl ?_
                    refine wk_i ?_
                    refine wr_add (nx := 176) (r1 := 0) (r2 := 0) (r3 := 0) rfl (fun e59 (fe59 : e59 = e55 + (h 237 i49)) => ?_)
                    refine wi_bipush (n := 48) (nx := 178) (r1 := 0) (r2 := 0) (r3 := 0) rfl (by decide) ?_
                    refine wr_sub (nx := 179) (r1 := 0) (r2 := 0) (r3 := 0) rfl (fun e60 (fe60 : e60 = e59 - 48) => ?_)
                    refine wr_pf0 (k0 := 236) (x := e60) (bl := 0) (bh := 999) (nx := 182) (r1 := 11) (r2 := 7) (r3 := 0) rfl (by decide) rfl ⟨rfl, rfl⟩ rfl rfl g44 rfl (by omega) (fun h61 g61 w61 u61 => ?_)
                    have F62 := F45.then rfl u61
                    refine wr_iincL (i := 2) (n := 1) (v := 1) (2) ([(2, vi 2), (1, vi (h 237 i10)), (0, .ref 236)]) (nx := 185) (r1 := 0) (r2 := 0) (r3 := 0) rfl rfl (by decide) rfl ?_
                    refine wi_goto (nx := 188) (r1 := 146) (r2 := 0) (r3 := 0) rfl ?_
                    refine wi_aload_n (i := 0) (x := 236) (nx := 147) (r1 := 0) (r2 := 0) (r3 := 0) rfl rfl ?_
                    refine wi_iload_n (i := 2) (e := 2) (nx := 148) (r1 := 0) (r2 := 0) (r3 := 0) rfl rfl ?_
                    refine wr_V (k0 := 236) (rest := []) (as := [.ref 236, vi 2]) (nx := 151) (r1 := 216) (r2 := 1) (r3 := 11) rfl rfl rfl (of_decide_eq_true rfl) rfl rfl (by decide) rfl rfl (of_decide_eq_true rfl) (of_decide_eq_true rfl) ?_
                    refine wi_aload_n (i := 0) (x := 236) (nx := 1) (r1 := 0) (r2 := 0) (r3 := 0) rfl rfl ?_
                    refine wr_gi0 (k0 := 236) (x := h3 236 4) (nx := 4) (r1 := 11) (r2 := 4) (r3 := 0) rfl rfl (by decide) rfl ⟨rfl, rfl⟩ rfl ((u61 236 4 rfl).trans ((u44 236 4 rfl).trans ((u21 236 4 rfl).trans ((u19 236 4 rfl).trans (u17 236 4 rfl))))) ?_
                    refine wi_iload_n (i := 1) (e := 2) (nx := 5) (r1 := 0) (r2 := 0) (r3 := 0) rfl rfl ?_
                    refine wr_add (nx := 6) (r1 := 0) (r2 := 0) (r3 := 0) rfl (fun e63 (fe63 : e63 = (h3 236 4) + 2) => ?_)
                    refine wi_aload_n (i := 0) (x := 236) (nx := 7) (r1 := 0) (r2 := 0) (r3 := 0) rfl rfl ?_
                    refine wr_gi0 (k0 := 236) (x := h 236 3) (nx := 10) (r1 := 11) (r2 := 3) (r3 := 0) rfl rfl (by decide) rfl ⟨rfl, rfl⟩ rfl ((u61 236 3 rfl).trans ((u44 236 3 rfl).trans ((u21 236 3 rfl).trans ((u19 236 3 rfl).trans ((u17 236 3 rfl).trans (u3 236 3 rfl)))))) ?_
                    refine wi_icmp (cd := .ge) (nx := 13) (r1 := 27) (r2 := 0) (r3 := 0) rfl (by omega) (by omega) (fun (q64 : (h 236 3) ≤ e63) => ?_) (fun (q64 : ¬ ((h 236 3) ≤ e63)) => ?_)
                    ·
                      refine wi_iconst (n := (-1)) (nx := 28) (r1 := 0) (r2 := 0) (r3 := 0) rfl ?_
                      refine wi_ireturn (nx := 29) (r1 := 0) (r2 := 0) (r3 := 0) rfl rfl ?_
                      refine wk_i ?_
                      refine wi_S (rest := []) (as := [vi (-1)]) (nx := 154) (r1 := 218) (r2 := 17) (r3 := 0) rfl rfl rfl (of_decide_eq_true rfl) rfl rfl (of_decide_eq_true rfl) (of_decide_eq_true rfl) ?_
                      refine wi_iload_n (i := 0) (e := -1) (nx := 1) (r1 := 0) (r2 := 0) (r3 := 0) rfl rfl ?_
                      refine wi_bipush (n := 48) (nx := 3) (r1 := 0) (r2 := 0) (r3 := 0) rfl (by decide) ?_
                      refine wi_icmp (cd := .lt) (nx := 6) (r1 := 16) (r2 := 0) (r3 := 0) rfl (by omega) (by omega) (fun (q65 : (-1) < 48) => ?_) (fun (q65 : ¬ ((-1) < 48)) => by exfalso; omega)
                      refine wi_iconst (n := 0) (nx := 17) (r1 := 0) (r2 := 0) (r3 := 0) rfl ?_
                      refine wi_zreturn (nx := 18) (r1 := 0) (r2 := 0) (r3 := 0) rfl rfl (by omega) ?_
                      refine wk_i ?_
                      refine wi_if (cd := .eq) (nx := 157) (r1 := 188) (r2 := 0) (r3 := 0) rfl (by omega) (fun (q66 : 0 = 0) => ?_) (fun (q66 : ¬ (0 = 0)) => by exfalso; omega)
                      refine wi_aload_n (i := 0) (x := 236) (nx := 189) (r1 := 0) (r2 := 0) (r3 := 0) rfl rfl ?_
                      refine wi_iload_n (i := 2) (e := 2) (nx := 190) (r1 := 0) (r2 := 0) (r3 := 0) rfl rfl ?_
                      refine wi_iconst (n := 3) (nx := 191) (r1 := 0) (r2 := 0) (r3 := 0) rfl ?_
                      refine wi_icmp (cd := .le) (nx := 194) (r1 := 198) (r2 := 0) (r3 := 0) rfl (by omega) (by omega) (fun (q67 : 2 ≤ 3) => ?_) (fun (q67 : ¬ (2 ≤ 3)) => by exfalso; omega)
                      refine wi_iconst (n := 2) (nx := 199) (r1 := 0) (r2 := 0) (r3 := 0) rfl ?_
                      refine wr_pf0 (k0 := 236) (x := 2) (bl := 0) (bh := 4) (nx := 202) (r1 := 11) (r2 := 6) (r3 := 0) rfl (by decide) rfl ⟨rfl, rfl⟩ rfl rfl g61 rfl (by omega) (fun h68 g68 w68 u68 => ?_)
                      have F69 := F62.then rfl u68
                      refine wi_goto (nx := 205) (r1 := 239) (r2 := 0) (r3 := 0) rfl ?_
                      refine wi_aload_n (i := 0) (x := 236) (nx := 240) (r1 := 0) (r2 := 0) (r3 := 0) rfl rfl ?_
                      refine wi_dup (nx := 241) (r1 := 0) (r2 := 0) (r3 := 0) rfl rfl ?_
                      refine wr_gi0 (k0 := 236) (x := h3 236 4) (nx := 244) (r1 := 11) (r2 := 4) (r3 := 0) rfl rfl (by decide) rfl ⟨rfl, rfl⟩ rfl ((u68 236 4 rfl).trans ((u61 236 4 rfl).trans ((u44 236 4 rfl).trans ((u21 236 4 rfl).trans ((u19 236 4 rfl).trans (u17 236 4 rfl)))))) ?_
                      refine wi_iload_n (i := 2) (e := 2) (nx := 245) (r1 := 0) (r2 := 0) (r3 := 0) rfl rfl ?_
                      refine wr_add (nx := 246) (r1 := 0) (r2 := 0) (r3 := 0) rfl (fun e70 (fe70 : e70 = (h3 236 4) + 2) => ?_)
                      refine wr_pf0 (k0 := 236) (x := e70) (bl := 0) (bh := 800) (nx := 249) (r1 := 11) (r2 := 4) (r3 := 0) rfl (by decide) rfl ⟨rfl, rfl⟩ rfl rfl g68 rfl (by omega) (fun h71 g71 w71 u71 => ?_)
                      have F72 := F69.then rfl u71
                      refine wi_return (nx := 250) (r1 := 0) (r2 := 0) (r3 := 0) rfl rfl ?_
                      have e73 : h71 236 4 = e70 := w71
                      have e74 : h71 236 6 = 2 := ((u71 236 6 rfl).trans w68)
                      exact k h71 g71 F72 (show (h 236 4) ≤ (h71 236 4) by omega) (show (h71 236 4) ≤ (h 236 3) by omega) (show (h71 236 6) = 0 ∨ (h 236 4) + 1 ≤ (h71 236 4) by omega)
                    ·
                      refine wi_aload_n (i := 0) (x := 236) (nx := 14) (r1 := 0) (r2 := 0) (r3 := 0) rfl rfl ?_
                      refine wr_gr (k0 := 236) (x := 237) (nx := 17) (r1 := 11) (r2 := 1) (r3 := 0) rfl rfl (by decide) rfl ⟨rfl, rfl⟩ rfl ?_
                      refine wi_aload_n (i := 0) (x := 236) (nx := 18) (r1 := 0) (r2 := 0) (r3 := 0) rfl rfl ?_
                      refine wr_gi0 (k0 := 236) (x := h3 236 4) (nx := 21) (r1 := 11) (r2 := 4) (r3 := 0) rfl rfl (by decide) rfl ⟨rfl, rfl⟩ rfl ((u61 236 4 rfl).trans ((u44 236 4 rfl).trans ((u21 236 4 rfl).trans ((u19 236 4 rfl).trans (u17 236 4 rfl))))) ?_
                      refine wi_iload_n (i := 1) (e := 2) (nx := 22) (r1 := 0) (r2 := 0) (r3 := 0) rfl rfl ?_
                      refine wr_add (nx := 23) (r1 := 0) (r2 := 0) (r3 := 0) rfl (fun e65 (fe65 : e65 = (h3 236 4) + 2) => ?_)
                      obtain ⟨i66, ei66⟩ : ∃ q : Nat, e65 = (q : Int) := ⟨(e65).toNat, by omega⟩
                      have b67 := gi_b (lo := 0) (hi := 255) g 237 i66 rfl
                      refine wr_ia (k0 := 237) (a := e65) (f := i66) (x := h 237 i66) (nx := 24) (r1 := 0) (r2 := 0) (r3 := 0) rfl (by decide) rfl (by omega) (by omega) (by decide) ((u61 237 i66 (fn_a (by omega) fn_0)).trans ((u44 237 i66 (fn_a (by omega) fn_0)).trans ((u21 237 i66 (fn_a (by omega) fn_0)).trans ((u19 237 i66 (fn_a (by omega) fn_0)).trans ((u17 237 i66 (fn_a (by omega) fn_0)).trans (u3 237 i66 (fn_a (by omega) fn_0))))))) ?_
                      refine wi_goto (nx := 27) (r1 := 28) (r2 := 0) (r3 := 0) rfl ?_
                      refine wi_ireturn (nx := 29) (r1 := 0) (r2 := 0) (r3 := 0) rfl rfl ?_
                      refine wk_i ?_
                      refine wi_S (rest := []) (as := [vi (h 237 i66)]) (nx := 154) (r1 := 218) (r2 := 17) (r3 := 0) rfl rfl rfl (of_decide_eq_true rfl) rfl rfl (of_decide_eq_true rfl) (of_decide_eq_true rfl) ?_
                      refine wi_iload_n (i := 0) (e := h 237 i66) (nx := 1) (r1 := 0) (r2 := 0) (r3 := 0) rfl rfl ?_
                      refine wi_bipush (n := 48) (nx := 3) (r1 := 0) (r2 := 0) (r3 := 0) rfl (by decide) ?_
                      refine wi_icmp (cd := .lt) (nx := 6) (r1 := 16) (r2 := 0) (r3 := 0) rfl (by omega) (by omega) (fun (q68 : (h 237 i66) < 48) => ?_) (fun (q68 : ¬ ((h 237 i66) < 48)) => ?_)
                      ·
                        refine wi_iconst (n := 0) (nx := 17) (r1 := 0) (r2 := 0) (r3 := 0) rfl ?_
                        refine wi_zreturn (nx := 18) (r1 := 0) (r2 := 0) (r3 := 0) rfl rfl (by omega) ?_
                        refine wk_i ?_
                        refine wi_if (cd := .eq) (nx := 157) (r1 := 188) (r2 := 0) (r3 := 0) rfl (by omega) (fun (q69 : 0 = 0) => ?_) (fun (q69 : ¬ (0 = 0)) => by exfalso; omega)
                        refine wi_aload_n (i := 0) (x := 236) (nx := 189) (r1 := 0) (r2 := 0) (r3 := 0) rfl rfl ?_
                        refine wi_iload_n (i := 2) (e := 2) (nx := 190) (r1 := 0) (r2 := 0) (r3 := 0) rfl rfl ?_
                        refine wi_iconst (n := 3) (nx := 191) (r1 := 0) (r2 := 0) (r3 := 0) rfl ?_
                        refine wi_icmp (cd := .le) (nx := 194) (r1 := 198) (r2 := 0) (r3 := 0) rfl (by omega) (by omega) (fun (q70 : 2 ≤ 3) => ?_) (fun (q70 : ¬ (2 ≤ 3)) => by exfalso; omega)
                        refine wi_iconst (n := 2) (nx := 199) (r1 := 0) (r2 := 0) (r3 := 0) rfl ?_
                        refine wr_pf0 (k0 := 236) (x := 2) (bl := 0) (bh := 4) (nx := 202) (r1 := 11) (r2 := 6) (r3 := 0) rfl (by decide) rfl ⟨rfl, rfl⟩ rfl rfl g61 rfl (by omega) (fun h71 g71 w71 u71 => ?_)
                        have F72 := F62.then rfl u71
                        refine wi_goto (nx := 205) (r1 := 239) (r2 := 0) (r3 := 0) rfl ?_
                        refine wi_aload_n (i := 0) (x := 236) (nx := 240) (r1 := 0) (r2 := 0) (r3 := 0) rfl rfl ?_
                        refine wi_dup (nx := 241) (r1 := 0) (r2 := 0) (r3 := 0) rfl rfl ?_
                        refine wr_gi0 (k0 := 236) (x := h3 236 4) (nx := 244) (r1 := 11) (r2 := 4) (r3 := 0) rfl rfl (by decide) rfl ⟨rfl, rfl⟩ rfl ((u71 236 4 rfl).trans ((u61 236 4 rfl).trans ((u44 236 4 rfl).trans ((u21 236 4 rfl).trans ((u19 236 4 rfl).trans (u17 236 4 rfl)))))) ?_
                        refine wi_iload_n (i := 2) (e := 2) (nx := 245) (r1 := 0) (r2 := 0) (r3 := 0) rfl rfl ?_
                        refine wr_add (nx := 246) (r1 := 0) (r2 := 0) (r3 := 0) rfl (fun e73 (fe73 : e73 = (h3 236 4) + 2) => ?_)
                        refine wr_pf0 (k0 := 236) (x := e73) (bl := 0) (bh := 800) (nx := 249) (r1 := 11) (r2 := 4) (r3 := 0) rfl (by decide) rfl ⟨rfl, rfl⟩ rfl rfl g71 rfl (by omega) (fun h74 g74 w74 u74 => ?_)
                        have F75 := F72.then rfl u74
                        refine wi_return (nx := 250) (r1 := 0) (r2 := 0) (r3 := 0) rfl rfl ?_
                        have e76 : h74 236 4 = e73 := w74
                        have e77 : h74 236 6 = 2 := ((u74 236 6 rfl).trans w71)
                        exact k h74 g74 F75 (show (h 236 4) ≤ (h74 236 4) by omega) (show (h74 236 4) ≤ (h 236 3) by omega) (show (h74 236 6) = 0 ∨ (h 236 4) + 1 ≤ (h74 236 4) by omega)
                      ·
                        refine wi_iload_n (i := 0) (e := h 237 i66) (nx := 7) (r1 := 0) (r2 := 0) (r3 := 0) rfl rfl ?_
                        refine wi_bipush (n := 57) (nx := 9) (r1 := 0) (r2 := 0) (r3 := 0) rfl (by decide) ?_
                        refine wi_icmp (cd := .gt) (nx := 12) (r1 := 16) (r2 := 0) (r3 := 0) rfl (by omega) (by omega) (fun (q69 : 57 < (h 237 i66)) => ?_) (fun (q69 : ¬ (57 < (h 237 i66))) => ?_)
                        ·
                          refine wi_iconst (n := 0) (nx := 17) (r1 := 0) (r2 := 0) (r3 := 0) rfl ?_
                          refine wi_zreturn (nx := 18) (r1 := 0) (r2 := 0) (r3 := 0) rfl rfl (by omega) ?_
                          refine wk_i ?_
                          refine wi_if (cd := .eq) (nx := 157) (r1 := 188) (r2 := 0) (r3 := 0) rfl (by omega) (fun (q70 : 0 = 0) => ?_) (fun (q70 : ¬ (0 = 0)) => by exfalso; omega)
                          refine wi_aload_n (i := 0) (x := 236) (nx := 189) (r1 := 0) (r2 := 0) (r3 := 0) rfl rfl ?_
                          refine wi_iload_n (i := 2) (e := 2) (nx := 190) (r1 := 0) (r2 := 0) (r3 := 0) rfl rfl ?_
                          refine wi_iconst (n := 3) (nx := 191) (r1 := 0) (r2 := 0) (r3 := 0) rfl ?_
                          refine wi_icmp (cd := .le) (nx := 194) (r1 := 198) (r2 := 0) (r3 := 0) rfl (by omega) (by omega) (fun (q71 : 2 ≤ 3) => ?_) (fun (q71 : ¬ (2 ≤ 3)) => by exfalso; omega)
                          refine wi_iconst (n := 2) (nx := 199) (r1 := 0) (r2 := 0) (r3 := 0) rfl ?_
                          refine wr_pf0 (k0 := 236) (x := 2) (bl := 0) (bh := 4) (nx := 202) (r1 := 11) (r2 := 6) (r3 := 0) rfl (by decide) rfl ⟨rfl, rfl⟩ rfl rfl g61 rfl (by omega) (fun h72 g72 w72 u72 => ?_)
                          have F73 := F62.then rfl u72
                          refine wi_goto (nx := 205) (r1 := 239) (r2 := 0) (r3 := 0) rfl ?_
                          refine wi_aload_n (i := 0) (x := 236) (nx := 240) (r1 := 0) (r2 := 0) (r3 := 0) rfl rfl ?_
                          refine wi_dup (nx := 241) (r1 := 0) (r2 := 0) (r3 := 0) rfl rfl ?_
                          refine wr_gi0 (k0 := 236) (x := h3 236 4) (nx := 244) (r1 := 11) (r2 := 4) (r3 := 0) rfl rfl (by decide) rfl ⟨rfl, rfl⟩ rfl ((u72 236 4 rfl).trans ((u61 236 4 rfl).trans ((u44 236 4 rfl).trans ((u21 236 4 rfl).trans ((u19 236 4 rfl).trans (u17 236 4 rfl)))))) ?_
                          refine wi_iload_n (i := 2) (e := 2) (nx := 245) (r1 := 0) (r2 := 0) (r3 := 0) rfl rfl ?_
                          refine wr_add (nx := 246) (r1 := 0) (r2 := 0) (r3 := 0) rfl (fun e74 (fe74 : e74 = (h3 236 4) + 2) => ?_)
                          refine wr_pf0 (k0 := 236) (x := e74) (bl := 0) (bh := 800) (nx := 249) (r1 := 11) (r2 := 4) (r3 := 0) rfl (by decide) rfl ⟨rfl, rfl⟩ rfl rfl g72 rfl (by omega) (fun h75 g75 w75 u75 => ?_)
                          have F76 := F73.then rfl u75
                          refine wi_return (nx := 250) (r1 := 0) (r2 := 0) (r3 := 0) rfl rfl ?_
                          have e77 : h75 236 4 = e74 := w75
                          have e78 : h75 236 6 = 2 := ((u75 236 6 rfl).trans w72)
                          exact k h75 g75 F76 (show (h 236 4) ≤ (h75 236 4) by omega) (show (h75 236 4) ≤ (h 236 3) by omega) (show (h75 236 6) = 0 ∨ (h 236 4) + 1 ≤ (h75 236 4) by omega)
                        ·
                          refine wi_iconst (n := 1) (nx := 13) (r1 := 0) (r2 := 0) (r3 := 0) rfl ?_
                          refine wi_goto (nx := 16) (r1 := 17) (r2 := 0) (r3 := 0) rfl ?_
                          refine wi_zreturn (nx := 18) (r1 := 0) (r2 := 0) (r3 := 0) rfl rfl (by omega) ?_
                          refine wk_i ?_
                          refine wi_if (cd := .eq) (nx := 157) (r1 := 188) (r2 := 0) (r3 := 0) rfl (by omega) (fun (q70 : 1 = 0) => by exfalso; omega) (fun (q70 : ¬ (1 = 0)) => ?_)
                          refine wi_iload_n (i := 2) (e := 2) (nx := 158) (r1 := 0) (r2 := 0) (r3 := 0) rfl rfl ?_
                          refine wi_iconst (n := 3) (nx := 159) (r1 := 0) (r2 := 0) (r3 := 0) rfl ?_
                          refine wi_icmp (cd := .ge) (nx := 162) (r1 := 182) (r2 := 0) (r3 := 0) rfl (by omega) (by omega) (fun (q71 : 3 ≤ 2) => by exfalso; omega) (fun (q71 : ¬ (3 ≤ 2)) => ?_)
                          refine wi_aload_n (i := 0) (x := 236) (nx := 163) (r1 := 0) (r2 := 0) (r3 := 0) rfl rfl ?_
                          refine wi_bipush (n := 10) (nx := 165) (r1 := 0) (r2 := 0) (r3 := 0) rfl (by decide) ?_
                          refine wi_aload_n (i := 0) (x := 236) (nx := 166) (r1 := 0) (r2 := 0) (r3 := 0) rfl rfl ?_
                          refine wr_gi0 (k0 := 236) (x := e60) (nx := 169) (r1 := 11) (r2 := 7) (r3 := 0) rfl rfl (by decide) rfl ⟨rfl, rfl⟩ rfl w61 ?_
                          refine wr_mul (nx := 170) (r1 := 0) (r2 := 0) (r3 := 0) rfl (fun e72 (fe72 : e72 = 10 * e60) => ?_)
                          refine wi_aload_n (i := 0) (x := 236) (nx := 171) (r1 := 0) (r2 := 0) (r3 := 0) rfl rfl ?_
                          refine wi_iload_n (i := 2) (e := 2) (nx := 172) (r1 := 0) (r2 := 0) (r3 := 0) rfl rfl ?_
                          refine wr_V (k0 := 236) (rest := [vi e72, .ref 236]) (as := [.ref 236, vi 2]) (nx := 175) (r1 := 216) (r2 := 1) (r3 := 11) rfl rfl rfl (of_decide_eq_true rfl) rfl rfl (by decide) rfl rfl (of_decide_eq_true rfl) (of_decide_eq_true rfl) ?_
                          refine wi_aload_n (i := 0) (x := 236) (nx := 1) (r1 := 0) (r2 := 0) (r3 := 0) rfl rfl ?_
                          refine wr_gi0 (k0 := 236) (x := h3 236 4) (nx := 4) (r1 := 11) (r2 := 4) (r3 := 0) rfl rfl (by decide) rfl ⟨rfl, rfl⟩ rfl ((u61 236 4 rfl).trans ((u44 236 4 rfl).trans ((u21 236 4 rfl).trans ((u19 236 4 rfl).trans (u17 236 4 rfl))))) ?_
                          refine wi_iload_n (i := 1) (e := 2) (nx := 5) (r1 := 0) (r2 := 0) (r3 := 0) rfl rfl ?_
                          refine wr_add (nx := 6) (r1 := 0) (r2 := 0) (r3 := 0) rfl (fun e73 (fe73 : e73 = (h3 236 4) + 2) => ?_)
                          refine wi_aload_n (i := 0) (x := 236) (nx := 7) (r1 := 0) (r2 := 0) (r3 := 0) rfl rfl ?_
                          refine wr_gi0 (k0 := 236) (x := h 236 3) (nx := 10) (r1 := 11) (r2 := 3) (r3 := 0) rfl rfl (by decide) rfl ⟨rfl, rfl⟩ rfl ((u61 236 3 rfl).trans ((u44 236 3 rfl).trans ((u21 236 3 rfl).trans ((u19 236 3 rfl).trans ((u17 236 3 rfl).trans (u3 236 3 rfl)))))) ?_
                          refine wi_icmp (cd := .ge) (nx := 13) (r1 := 27) (r2 := 0) (r3 := 0) rfl (by omega) (by omega) (fun (q74 : (h 236 3) ≤ e73) => by exfalso; omega) (fun (q74 : ¬ ((h 236 3) ≤ e73)) => ?_)
                          refine wi_aload_n (i := 0) (x := 236) (nx := 14) (r1 := 0) (r2 := 0) (r3 := 0) rfl rfl ?_
                          refine wr_gr (k0 := 236) (x := 237) (nx := 17) (r1 := 11) (r2 := 1) (r3 := 0) rfl rfl (by decide) rfl ⟨rfl, rfl⟩ rfl ?_
                          refine wi_aload_n (i := 0) (x := 236) (nx := 18) (r1 := 0) (r2 := 0) (r3 := 0) rfl rfl ?_
                          refine wr_gi0 (k0 := 236) (x := h3 236 4) (nx := 21) (r1 := 11) (r2 := 4) (r3 := 0) rfl rfl (by decide) rfl ⟨rfl, rfl⟩ rfl ((u61 236 4 rfl).trans ((u44 236 4 rfl).trans ((u21 236 4 rfl).trans ((u19 236 4 rfl).trans (u17 236 4 rfl))))) ?_
                          refine wi_iload_n (i := 1) (e := 2) (nx := 22) (r1 := 0) (r2 := 0) (r3 := 0) rfl rfl ?_
                          refine wr_add (nx := 23) (r1 := 0) (r2 := 0) (r3 := 0) rfl (fun e75 (fe75 : e75 = (h3 236 4) + 2) => ?_)
                          refine wr_ia (k0 := 237) (a := e75) (f := i66) (x := h 237 i66) (nx := 24) (r1 := 0) (r2 := 0) (r3 := 0) rfl (by decide) rfl (by omega) (by omega) (by decide) ((u61 237 i66 (fn_a (by omega) fn_0)).trans ((u44 237 i66 (fn_a (by omega) fn_0)).trans ((u21 237 i66 (fn_a (by omega) fn_0)).trans ((u19 237 i66 (fn_a (by omega) fn_0)).trans ((u17 237 i66 (fn_a (by omega) fn_0)).trans (u3 237 i66 (fn_a (by omega) fn_0))))))) ?_
                          refine wi_goto (nx := 27) (r1 := 28) (r2 := 0) (r3 := 0) rfl ?_
                          refine wi_ireturn (nx := 29) (r1 := 0) (r2 := 0) (r3 := 0) rfl rfl ?_
                          refine wk_i ?_
                          refine wr_add (nx := 176) (r1 := 0) (r2 := 0) (r3 := 0) rfl (fun e76 (fe76 : e76 = e72 + (h 237 i66)) => ?_)
                          refine wi_bipush (n := 48) (nx := 178) (r1 := 0) (r2 := 0) (r3 := 0) rfl (by decide) ?_
                          refine wr_sub (nx := 179) (r1 := 0) (r2 := 0) (r3 := 0) rfl (fun e77 (fe77 : e77 = e76 - 48) => ?_)
                          refine wr_pf0 (k0 := 236) (x := e77) (bl := 0) (bh := 999) (nx := 182) (r1 := 11) (r2 := 7) (r3 := 0) rfl (by decide) rfl ⟨rfl, rfl⟩ rfl rfl g61 rfl (by omega) (fun h78 g78 w78 u78 => ?_)
                          have F79 := F62.then rfl u78
                          refine wr_iincL (i := 2) (n := 1) (v := 2) (3) ([(2, vi 3), (1, vi (h 237 i10)), (0, .ref 236)]) (nx := 185) (r1 := 0) (r2 := 0) (r3 := 0) rfl rfl (by decide) rfl ?_
                          refine wi_goto (nx := 188) (r1 := 146) (r2 := 0) (r3 := 0) rfl ?_
                          have e82 : h78 236 4 = h3 236 4 := ((u78 236 4 rfl).trans ((u61 236 4 rfl).trans ((u44 236 4 rfl).trans ((u21 236 4 rfl).trans ((u19 236 4 rfl).trans (u17 236 4 rfl))))))
                          have e83 : h78 236 3 = h 236 3 := ((u78 236 3 rfl).trans ((u61 236 3 rfl).trans ((u44 236 3 rfl).trans ((u21 236 3 rfl).trans ((u19 236 3 rfl).trans ((u17 236 3 rfl).trans (u3 236 3 rfl)))))))
                          refine wp.lo (lo := [(0, .ref 236), (2, vi 3)]) ⟨rfl, rfl, trivial⟩ rfl ?_
                          refine wl_1 (fun x80 h81 => h78 = h81 ∧ ((3 ≤ x80 ∧ x80 ≤ 800) ∧ (x80 + (h78 236 4) ≤ (h78 236 3)))) (fun x80 h81 => ((h78 236 3) - (h78 236 4) - x80).toNat) (fun x80 h81 => (146, [(0, .ref 236), (2, vi x80)], [], hp_w h81 cr, b, c)) ?_ 3 h78 ⟨rfl, (show (3 ≤ 3 ∧ 3 ≤ 800) ∧ (3 + (h78 236 4) ≤ (h78 236 3)) by omega)⟩
                          intro x80 h81 ⟨e81, f81⟩ I81
                          subst e81
                          refine wi_aload_n (i := 0) (x := 236) (nx := 147) (r1 := 0) (r2 := 0) (r3 := 0) rfl rfl ?_
                          refine wi_iload_n (i := 2) (e := x80) (nx := 148) (r1 := 0) (r2 := 0) (r3 := 0) rfl rfl ?_
                          refine wr_V (k0 := 236) (rest := []) (as := [.ref 236, vi x80]) (nx := 151) (r1 := 216) (r2 := 1) (r3 := 11) rfl rfl rfl (of_decide_eq_true rfl) rfl rfl (by decide) rfl rfl (of_decide_eq_true rfl) (of_decide_eq_true rfl) ?_
                          refine wi_aload_n (i := 0) (x := 236) (nx := 1) (r1 := 0) (r2 := 0) (r3 := 0) rfl rfl ?_
                          refine wr_gi0 (k0 := 236) (x := h3 236 4) (nx := 4) (r1 := 11) (r2 := 4) (r3 := 0) rfl rfl (by decide) rfl ⟨rfl, rfl⟩ rfl ((u78 236 4 rfl).trans ((u61 236 4 rfl).trans ((u44 236 4 rfl).trans ((u21 236 4 rfl).trans ((u19 236 4 rfl).trans (u17 236 4 rfl)))))) ?_
                          refine wi_iload_n (i := 1) (e := x80) (nx := 5) (r1 := 0) (r2 := 0) (r3 := 0) rfl rfl ?_
                          refine wr_add (nx := 6) (r1 := 0) (r2 := 0) (r3 := 0) rfl (fun e85 (fe85 : e85 = (h3 236 4) + x80) => ?_)
                          refine wi_aload_n (i := 0) (x := 236) (nx := 7) (r1 := 0) (r2 := 0) (r3 := 0) rfl rfl ?_
                          refine wr_gi0 (k0 := 236) (x := h 236 3) (nx := 10) (r1 := 11) (r2 := 3) (r3 := 0) rfl rfl (by decide) rfl ⟨rfl, rfl⟩ rfl ((u78 236 3 rfl).trans ((u61 236 3 rfl).trans ((u44 236 3 rfl).trans ((u21 236 3 rfl).trans ((u19 236 3 rfl).trans ((u17 236 3 rfl).trans (u3 236 3 rfl))))))) ?_
                          refine wi_icmp (cd := .ge) (nx := 13) (r1 := 27) (r2 := 0) (r3 := 0) rfl (by omega) (by omega) (fun (q86 : (h 236 3) ≤ e85) => ?_) (fun (q86 : ¬ ((h 236 3) ≤ e85)) => ?_)
                          ·
                            refine wi_iconst (n := (-1)) (nx := 28) (r1 := 0) (r2 := 0) (r3 := 0) rfl ?_
                            refine wi_ireturn (nx := 29) (r1 := 0) (r2 := 0) (r3 := 0) rfl rfl ?_
                            refine wk_i ?_
                            refine wi_S (rest := []) (as := [vi (-1)]) (nx := 154) (r1 := 218) (r2 := 17) (r3 := 0) rfl rfl rfl (of_decide_eq_true rfl) rfl rfl (of_decide_eq_true rfl) (of_decide_eq_true rfl) ?_
                            refine wi_iload_n (i := 0) (e := -1) (nx := 1) (r1 := 0) (r2 := 0) (r3 := 0) rfl rfl ?_
                            refine wi_bipush (n := 48) (nx := 3) (r1 := 0) (r2 := 0) (r3 := 0) rfl (by decide) ?_
                            refine wi_icmp (cd := .lt) (nx := 6) (r1 := 16) (r2 := 0) (r3 := 0) rfl (by omega) (by omega) (fun (q87 : (-1) < 48) => ?_) (fun (q87 : ¬ ((-1) < 48)) => by exfalso; omega)
                            refine wi_iconst (n := 0) (nx := 17) (r1 := 0) (r2 := 0) (r3 := 0) rfl ?_
                            refine wi_zreturn (nx := 18) (r1 := 0) (r2 := 0) (r3 := 0) rfl rfl (by omega) ?_
                            refine wk_i ?_
                            refine wi_if (cd := .eq) (nx := 157) (r1 := 188) (r2 := 0) (r3 := 0) rfl (by omega) (fun (q88 : 0 = 0) => ?_) (fun (q88 : ¬ (0 = 0)) => by exfalso; omega)
                            refine wi_aload_n (i := 0) (x := 236) (nx := 189) (r1 := 0) (r2 := 0) (r3 := 0) rfl rfl ?_
                            refine wi_iload_n (i := 2) (e := x80) (nx := 190) (r1 := 0) (r2 := 0) (r3 := 0) rfl rfl ?_
                            refine wi_iconst (n := 3) (nx := 191) (r1 := 0) (r2 := 0) (r3 := 0) rfl ?_
                            refine wi_icmp (cd := .le) (nx := 194) (r1 := 198) (r2 := 0) (r3 := 0) rfl (by omega) (by omega) (fun (q89 : x80 ≤ 3) => ?_) (fun (q89 : ¬ (x80 ≤ 3)) => ?_)
                            ·
                              refine wi_iconst (n := 2) (nx := 199) (r1 := 0) (r2 := 0) (r3 := 0) rfl ?_
                              refine wr_pf0 (k0 := 236) (x := 2) (bl := 0) (bh := 4) (nx := 202) (r1 := 11) (r2 := 6) (r3 := 0) rfl (by decide) rfl ⟨rfl, rfl⟩ rfl rfl g78 rfl (by omega) (fun h90 g90 w90 u90 => ?_)
                              have F91 := F79.then rfl u90
                              refine wi_goto (nx := 205) (r1 := 239) (r2 := 0) (r3 := 0) rfl ?_
                              refine wi_aload_n (i := 0) (x := 236) (nx := 240) (r1 := 0) (r2 := 0) (r3 := 0) rfl rfl ?_
                              refine wi_dup (nx := 241) (r1 := 0) (r2 := 0) (r3 := 0) rfl rfl ?_
                              refine wr_gi0 (k0 := 236) (x := h3 236 4) (nx := 244) (r1 := 11) (r2 := 4) (r3 := 0) rfl rfl (by decide) rfl ⟨rfl, rfl⟩ rfl ((u90 236 4 rfl).trans ((u78 236 4 rfl).trans ((u61 236 4 rfl).trans ((u44 236 4 rfl).trans ((u21 236 4 rfl).trans ((u19 236 4 rfl).trans (u17 236 4 rfl))))))) ?_
                              refine wi_iload_n (i := 2) (e := x80) (nx := 245) (r1 := 0) (r2 := 0) (r3 := 0) rfl rfl ?_
                              refine wr_add (nx := 246) (r1 := 0) (r2 := 0) (r3 := 0) rfl (fun e92 (fe92 : e92 = (h3 236 4) + x80) => ?_)
                              refine wr_pf0 (k0 := 236) (x := e92) (bl := 0) (bh := 800) (nx := 249) (r1 := 11) (r2 := 4) (r3 := 0) rfl (by decide) rfl ⟨rfl, rfl⟩ rfl rfl g90 rfl (by omega) (fun h93 g93 w93 u93 => ?_)
                              have F94 := F91.then rfl u93
                              refine wi_return (nx := 250) (r1 := 0) (r2 := 0) (r3 := 0) rfl rfl ?_
                              have e95 : h93 236 4 = e92 := w93
                              have e96 : h93 236 6 = 2 := ((u93 236 6 rfl).trans w90)
                              exact k h93 g93 F94 (show (h 236 4) ≤ (h93 236 4) by omega) (show (h93 236 4) ≤ (h 236 3) by omega) (show (h93 236 6) = 0 ∨ (h 236 4) + 1 ≤ (h93 236 4) by omega)
                            ·
                              refine wi_iconst (n := 4) (nx := 195) (r1 := 0) (r2 := 0) (r3 := 0) rfl ?_
                              refine wi_goto (nx := 198) (r1 := 199) (r2 := 0) (r3 := 0) rfl ?_
                              refine wr_pf0 (k0 := 236) (x := 4) (bl := 0) (bh := 4) (nx := 202) (r1 := 11) (r2 := 6) (r3 := 0) rfl (by decide) rfl ⟨rfl, rfl⟩ rfl rfl g78 rfl (by omega) (fun h90 g90 w90 u90 => ?_)
                              have F91 := F79.then rfl u90
                              refine wi_goto (nx := 205) (r1 := 239) (r2 := 0) (r3 := 0) rfl ?_
                              refine wi_aload_n (i := 0) (x := 236) (nx := 240) (r1 := 0) (r2 := 0) (r3 := 0) rfl rfl ?_
                              refine wi_dup (nx := 241) (r1 := 0) (r2 := 0) (r3 := 0) rfl rfl ?_
                              refine wr_gi0 (k0 := 236) (x := h3 236 4) (nx := 244) (r1 := 11) (r2 := 4) (r3 := 0) rfl rfl (by decide) rfl ⟨rfl, rfl⟩ rfl ((u90 236 4 rfl).trans ((u78 236 4 rfl).trans ((u61 236 4 rfl).trans ((u44 236 4 rfl).trans ((u21 236 4 rfl).trans ((u19 236 4 rfl).trans (u17 236 4 rfl))))))) ?_
                              refine wi_iload_n (i := 2) (e := x80) (nx := 245) (r1 := 0) (r2 := 0) (r3 := 0) rfl rfl ?_
                              refine wr_add (nx := 246) (r1 := 0) (r2 := 0) (r3 := 0) rfl (fun e92 (fe92 : e92 = (h3 236 4) + x80) => ?_)
                              refine wr_pf0 (k0 := 236) (x := e92) (bl := 0) (bh := 800) (nx := 249) (r1 := 11) (r2 := 4) (r3 := 0) rfl (by decide) rfl ⟨rfl, rfl⟩ rfl rfl g90 rfl (by omega) (fun h93 g93 w93 u93 => ?_)
                              have F94 := F91.then rfl u93
                              refine wi_return (nx := 250) (r1 := 0) (r2 := 0) (r3 := 0) rfl rfl ?_
                              have e95 : h93 236 4 = e92 := w93
                              have e96 : h93 236 6 = 4 := ((u93 236 6 rfl).trans w90)
                              exact k h93 g93 F94 (show (h 236 4) ≤ (h93 236 4) by omega) (show (h93 236 4) ≤ (h 236 3) by omega) (show (h93 236 6) = 0 ∨ (h 236 4) + 1 ≤ (h93 236 4) by omega)
                          ·
                            refine wi_aload_n (i := 0) (x := 236) (nx := 14) (r1 := 0) (r2 := 0) (r3 := 0) rfl rfl ?_
                            refine wr_gr (k0 := 236) (x := 237) (nx := 17) (r1 := 11) (r2 := 1) (r3 := 0) rfl rfl (by decide) rfl ⟨rfl, rfl⟩ rfl ?_
                            refine wi_aload_n (i := 0) (x := 236) (nx := 18) (r1 := 0) (r2 := 0) (r3 := 0) rfl rfl ?_
                            refine wr_gi0 (k0 := 236) (x := h3 236 4) (nx := 21) (r1 := 11) (r2 := 4) (r3 := 0) rfl rfl (by decide) rfl ⟨rfl, rfl⟩ rfl ((u78 236 4 rfl).trans ((u61 236 4 rfl).trans ((u44 236 4 rfl).trans ((u21 236 4 rfl).trans ((u19 236 4 rfl).trans (u17 236 4 rfl)))))) ?_
                            refine wi_iload_n (i := 1) (e := x80) (nx := 22) (r1 := 0) (r2 := 0) (r3 := 0) rfl rfl ?_
                            refine wr_add (nx := 23) (r1 := 0) (r2 := 0) (r3 := 0) rfl (fun e87 (fe87 : e87 = (h3 236 4) + x80) => ?_)
                            obtain ⟨i88, ei88⟩ : ∃ q : Nat, e87 = (q : Int) := ⟨(e87).toNat, by omega⟩
                            have b89 := gi_b (lo := 0) (hi := 255) g 237 i88 rfl
                            refine wr_ia (k0 := 237) (a := e87) (f := i88) (x := h 237 i88) (nx := 24) (r1 := 0) (r2 := 0) (r3 := 0) rfl (by decide) rfl (by omega) (by omega) (by decide) ((u78 237 i88 (fn_a (by omega) fn_0)).trans ((u61 237 i88 (fn_a (by omega) fn_0)).trans ((u44 237 i88 (fn_a (by omega) fn_0)).trans ((u21 237 i88 (fn_a (by omega) fn_0)).trans ((u19 237 i88 (fn_a (by omega) fn_0)).trans ((u17 237 i88 (fn_a (by omega) fn_0)).trans (u3 237 i88 (fn_a (by omega) fn_0)))))))) ?_
                            refine wi_goto (nx := 27) (r1 := 28) (r2 := 0) (r3 := 0) rfl ?_
                            refine wi_ireturn (nx := 29) (r1 := 0) (r2 := 0) (r3 := 0) rfl rfl ?_
                            refine wk_i ?_
                            refine wi_S (rest := []) (as := [vi (h 237 i88)]) (nx := 154) (r1 := 218) (r2 := 17) (r3 := 0) rfl rfl rfl (of_decide_eq_true rfl) rfl rfl (of_decide_eq_true rfl) (of_decide_eq_true rfl) ?_
                            refine wi_iload_n (i := 0) (e := h 237 i88) (nx := 1) (r1 := 0) (r2 := 0) (r3 := 0) rfl rfl ?_
                            refine wi_bipush (n := 48) (nx := 3) (r1 := 0) (r2 := 0) (r3 := 0) rfl (by decide) ?_
                            refine wi_icmp (cd := .lt) (nx := 6) (r1 := 16) (r2 := 0) (r3 := 0) rfl (by omega) (by omega) (fun (q90 : (h 237 i88) < 48) => ?_) (fun (q90 : ¬ ((h 237 i88) < 48)) => ?_)
                            ·
                              refine wi_iconst (n := 0) (nx := 17) (r1 := 0) (r2 := 0) (r3 := 0) rfl ?_
                              refine wi_zreturn (nx := 18) (r1 := 0) (r2 := 0) (r3 := 0) rfl rfl (by omega) ?_
                              refine wk_i ?_
                              refine wi_if (cd := .eq) (nx := 157) (r1 := 188) (r2 := 0) (r3 := 0) rfl (by omega) (fun (q91 : 0 = 0) => ?_) (fun (q91 : ¬ (0 = 0)) => by exfalso; omega)
                              refine wi_aload_n (i := 0) (x := 236) (nx := 189) (r1 := 0) (r2 := 0) (r3 := 0) rfl rfl ?_
                              refine wi_iload_n (i := 2) (e := x80) (nx := 190) (r1 := 0) (r2 := 0) (r3 := 0) rfl rfl ?_
                              refine wi_iconst (n := 3) (nx := 191) (r1 := 0) (r2 := 0) (r3 := 0) rfl ?_
                              refine wi_icmp (cd := .le) (nx := 194) (r1 := 198) (r2 := 0) (r3 := 0) rfl (by omega) (by omega) (fun (q92 : x80 ≤ 3) => ?_) (fun (q92 : ¬ (x80 ≤ 3)) => ?_)
                              ·
                                refine wi_iconst (n := 2) (nx := 199) (r1 := 0) (r2 := 0) (r3 := 0) rfl ?_
                                refine wr_pf0 (k0 := 236) (x := 2) (bl := 0) (bh := 4) (nx := 202) (r1 := 11) (r2 := 6) (r3 := 0) rfl (by decide) rfl ⟨rfl, rfl⟩ rfl rfl g78 rfl (by omega) (fun h93 g93 w93 u93 => ?_)
                                have F94 := F79.then rfl u93
                                refine wi_goto (nx := 205) (r1 := 239) (r2 := 0) (r3 := 0) rfl ?_
                                refine wi_aload_n (i := 0) (x := 236) (nx := 240) (r1 := 0) (r2 := 0) (r3 := 0) rfl rfl ?_
                                refine wi_dup (nx := 241) (r1 := 0) (r2 := 0) (r3 := 0) rfl rfl ?_
                                refine wr_gi0 (k0 := 236) (x := h3 236 4) (nx := 244) (r1 := 11) (r2 := 4) (r3 := 0) rfl rfl (by decide) rfl ⟨rfl, rfl⟩ rfl ((u93 236 4 rfl).trans ((u78 236 4 rfl).trans ((u61 236 4 rfl).trans ((u44 236 4 rfl).trans ((u21 236 4 rfl).trans ((u19 236 4 rfl).trans (u17 236 4 rfl))))))) ?_
                                refine wi_iload_n (i := 2) (e := x80) (nx := 245) (r1 := 0) (r2 := 0) (r3 := 0) rfl rfl ?_
                                refine wr_add (nx := 246) (r1 := 0) (r2 := 0) (r3 := 0) rfl (fun e95 (fe95 : e95 = (h3 236 4) + x80) => ?_)
                                refine wr_pf0 (k0 := 236) (x := e95) (bl := 0) (bh := 800) (nx := 249) (r1 := 11) (r2 := 4) (r3 := 0) rfl (by decide) rfl ⟨rfl, rfl⟩ rfl rfl g93 rfl (by omega) (fun h96 g96 w96 u96 => ?_)
                                have F97 := F94.then rfl u96
                                refine wi_return (nx := 250) (r1 := 0) (r2 := 0) (r3 := 0) rfl rfl ?_
                                have e98 : h96 236 4 = e95 := w96
                                have e99 : h96 236 6 = 2 := ((u96 236 6 rfl).trans w93)
                                exact k h96 g96 F97 (show (h 236 4) ≤ (h96 236 4) by omega) (show (h96 236 4) ≤ (h 236 3) by omega) (show (h96 236 6) = 0 ∨ (h 236 4) + 1 ≤ (h96 236 4) by omega)
                              ·
                                refine wi_iconst (n := 4) (nx := 195) (r1 := 0) (r2 := 0) (r3 := 0) rfl ?_
                                refine wi_goto (nx := 198) (r1 := 199) (r2 := 0) (r3 := 0) rfl ?_
                                refine wr_pf0 (k0 := 236) (x := 4) (bl := 0) (bh := 4) (nx := 202) (r1 := 11) (r2 := 6) (r3 := 0) rfl (by decide) rfl ⟨rfl, rfl⟩ rfl rfl g78 rfl (by omega) (fun h93 g93 w93 u93 => ?_)
                                have F94 := F79.then rfl u93
                                refine wi_goto (nx := 205) (r1 := 239) (r2 := 0) (r3 := 0) rfl ?_
                                refine wi_aload_n (i := 0) (x := 236) (nx := 240) (r1 := 0) (r2 := 0) (r3 := 0) rfl rfl ?_
                                refine wi_dup (nx := 241) (r1 := 0) (r2 := 0) (r3 := 0) rfl rfl ?_
                                refine wr_gi0 (k0 := 236) (x := h3 236 4) (nx := 244) (r1 := 11) (r2 := 4) (r3 := 0) rfl rfl (by decide) rfl ⟨rfl, rfl⟩ rfl ((u93 236 4 rfl).trans ((u78 236 4 rfl).trans ((u61 236 4 rfl).trans ((u44 236 4 rfl).trans ((u21 236 4 rfl).trans ((u19 236 4 rfl).trans (u17 236 4 rfl))))))) ?_
                                refine wi_iload_n (i := 2) (e := x80) (nx := 245) (r1 := 0) (r2 := 0) (r3 := 0) rfl rfl ?_
                                refine wr_add (nx := 246) (r1 := 0) (r2 := 0) (r3 := 0) rfl (fun e95 (fe95 : e95 = (h3 236 4) + x80) => ?_)
                                refine wr_pf0 (k0 := 236) (x := e95) (bl := 0) (bh := 800) (nx := 249) (r1 := 11) (r2 := 4) (r3 := 0) rfl (by decide) rfl ⟨rfl, rfl⟩ rfl rfl g93 rfl (by omega) (fun h96 g96 w96 u96 => ?_)
                                have F97 := F94.then rfl u96
                                refine wi_return (nx := 250) (r1 := 0) (r2 := 0) (r3 := 0) rfl rfl ?_
                                have e98 : h96 236 4 = e95 := w96
                                have e99 : h96 236 6 = 4 := ((u96 236 6 rfl).trans w93)
                                exact k h96 g96 F97 (show (h 236 4) ≤ (h96 236 4) by omega) (show (h96 236 4) ≤ (h 236 3) by omega) (show (h96 236 6) = 0 ∨ (h 236 4) + 1 ≤ (h96 236 4) by omega)
                            ·
                              refine wi_iload_n (i := 0) (e := h 237 i88) (nx := 7) (r1 := 0) (r2 := 0) (r3 := 0) rfl rfl ?_
                              refine wi_bipush (n := 57) (nx := 9) (r1 := 0) (r2 := 0) (r3 := 0) rfl (by decide) ?_
                              refine wi_icmp (cd := .gt) (nx := 12) (r1 := 16) (r2 := 0) (r3 := 0) rfl (by omega) (by omega) (fun (q91 : 57 < (h 237 i88)) => ?_) (fun (q91 : ¬ (57 < (h 237 i88))) => ?_)
                              ·
                                refine wi_iconst (n := 0) (nx := 17) (r1 := 0) (r2 := 0) (r3 := 0) rfl ?_
                                refine wi_zreturn (nx := 18) (r1 := 0) (r2 := 0) (r3 := 0) rfl rfl (by omega) ?_
                                refine wk_i ?_
                                refine wi_if (cd := .eq) (nx := 157) (r1 := 188) (r2 := 0) (r3 := 0) rfl (by omega) (fun (q92 : 0 = 0) => ?_) (fun (q92 : ¬ (0 = 0)) => by exfalso; omega)
                                refine wi_aload_n (i := 0) (x := 236) (nx := 189) (r1 := 0) (r2 := 0) (r3 := 0) rfl rfl ?_
                                refine wi_iload_n (i := 2) (e := x80) (nx := 190) (r1 := 0) (r2 := 0) (r3 := 0) rfl rfl ?_
                                refine wi_iconst (n := 3) (nx := 191) (r1 := 0) (r2 := 0) (r3 := 0) rfl ?_
                                refine wi_icmp (cd := .le) (nx := 194) (r1 := 198) (r2 := 0) (r3 := 0) rfl (by omega) (by omega) (fun (q93 : x80 ≤ 3) => ?_) (fun (q93 : ¬ (x80 ≤ 3)) => ?_)
                                ·
                                  refine wi_iconst (n := 2) (nx := 199) (r1 := 0) (r2 := 0) (r3 := 0) rfl ?_
                                  refine wr_pf0 (k0 := 236) (x := 2) (bl := 0) (bh := 4) (nx := 202) (r1 := 11) (r2 := 6) (r3 := 0) rfl (by decide) rfl ⟨rfl, rfl⟩ rfl rfl g78 rfl (by omega) (fun h94 g94 w94 u94 => ?_)
                                  have F95 := F79.then rfl u94
                                  refine wi_goto (nx := 205) (r1 := 239) (r2 := 0) (r3 := 0) rfl ?_
                                  refine wi_aload_n (i := 0) (x := 236) (nx := 240) (r1 := 0) (r2 := 0) (r3 := 0) rfl rfl ?_
                                  refine wi_dup (nx := 241) (r1 := 0) (r2 := 0) (r3 := 0) rfl rfl ?_
                                  refine wr_gi0 (k0 := 236) (x := h3 236 4) (nx := 244) (r1 := 11) (r2 := 4) (r3 := 0) rfl rfl (by decide) rfl ⟨rfl, rfl⟩ rfl ((u94 236 4 rfl).trans ((u78 236 4 rfl).trans ((u61 236 4 rfl).trans ((u44 236 4 rfl).trans ((u21 236 4 rfl).trans ((u19 236 4 rfl).trans (u17 236 4 rfl))))))) ?_
                                  refine wi_iload_n (i := 2) (e := x80) (nx := 245) (r1 := 0) (r2 := 0) (r3 := 0) rfl rfl ?_
                                  refine wr_add (nx := 246) (r1 := 0) (r2 := 0) (r3 := 0) rfl (fun e96 (fe96 : e96 = (h3 236 4) + x80) => ?_)
                                  refine wr_pf0 (k0 := 236) (x := e96) (bl := 0) (bh := 800) (nx := 249) (r1 := 11) (r2 := 4) (r3 := 0) rfl (by decide) rfl ⟨rfl, rfl⟩ rfl rfl g94 rfl (by omega) (fun h97 g97 w97 u97 => ?_)
                                  have F98 := F95.then rfl u97
                                  refine wi_return (nx := 250) (r1 := 0) (r2 := 0) (r3 := 0) rfl rfl ?_
                                  have e99 : h97 236 4 = e96 := w97
                                  have e100 : h97 236 6 = 2 := ((u97 236 6 rfl).trans w94)
                                  exact k h97 g97 F98 (show (h 236 4) ≤ (h97 236 4) by omega) (show (h97 236 4) ≤ (h 236 3) by omega) (show (h97 236 6) = 0 ∨ (h 236 4) + 1 ≤ (h97 236 4) by omega)
                                ·
                                  refine wi_iconst (n := 4) (nx := 195) (r1 := 0) (r2 := 0) (r3 := 0) rfl ?_
                                  refine wi_goto (nx := 198) (r1 := 199) (r2 := 0) (r3 := 0) rfl ?_
                                  refine wr_pf0 (k0 := 236) (x := 4) (bl := 0) (bh := 4) (nx := 202) (r1 := 11) (r2 := 6) (r3 := 0) rfl (by decide) rfl ⟨rfl, rfl⟩ rfl rfl g78 rfl (by omega) (fun h94 g94 w94 u94 => ?_)
                                  have F95 := F79.then rfl u94
                                  refine wi_goto (nx := 205) (r1 := 239) (r2 := 0) (r3 := 0) rfl ?_
                                  refine wi_aload_n (i := 0) (x := 236) (nx := 240) (r1 := 0) (r2 := 0) (r3 := 0) rfl rfl ?_
                                  refine wi_dup (nx := 241) (r1 := 0) (r2 := 0) (r3 := 0) rfl rfl ?_
                                  refine wr_gi0 (k0 := 236) (x := h3 236 4) (nx := 244) (r1 := 11) (r2 := 4) (r3 := 0) rfl rfl (by decide) rfl ⟨rfl, rfl⟩ rfl ((u94 236 4 rfl).trans ((u78 236 4 rfl).trans ((u61 236 4 rfl).trans ((u44 236 4 rfl).trans ((u21 236 4 rfl).trans ((u19 236 4 rfl).trans (u17 236 4 rfl))))))) ?_
                                  refine wi_iload_n (i := 2) (e := x80) (nx := 245) (r1 := 0) (r2 := 0) (r3 := 0) rfl rfl ?_
                                  refine wr_add (nx := 246) (r1 := 0) (r2 := 0) (r3 := 0) rfl (fun e96 (fe96 : e96 = (h3 236 4) + x80) => ?_)
                                  refine wr_pf0 (k0 := 236) (x := e96) (bl := 0) (bh := 800) (nx := 249) (r1 := 11) (r2 := 4) (r3 := 0) rfl (by decide) rfl ⟨rfl, rfl⟩ rfl rfl g94 rfl (by omega) (fun h97 g97 w97 u97 => ?_)
                                  have F98 := F95.then rfl u97
                                  refine wi_return (nx := 250) (r1 := 0) (r2 := 0) (r3 := 0) rfl rfl ?_
                                  have e99 : h97 236 4 = e96 := w97
                                  have e100 : h97 236 6 = 4 := ((u97 236 6 rfl).trans w94)
                                  exact k h97 g97 F98 (show (h 236 4) ≤ (h97 236 4) by omega) (show (h97 236 4) ≤ (h 236 3) by omega) (show (h97 236 6) = 0 ∨ (h 236 4) + 1 ≤ (h97 236 4) by omega)
                              ·
                                refine wi_iconst (n := 1) (nx := 13) (r1 := 0) (r2 := 0) (r3 := 0) rfl ?_
                                refine wi_goto (nx := 16) (r1 := 17) (r2 := 0) (r3 := 0) rfl ?_
                                refine wi_zreturn (nx := 18) (r1 := 0) (r2 := 0) (r3 := 0) rfl rfl (by omega) ?_
                                refine wk_i ?_
                                refine wi_if (cd := .eq) (nx := 157) (r1 := 188) (r2 := 0) (r3 := 0) rfl (by omega) (fun (q92 : 1 = 0) => by exfalso; omega) (fun (q92 : ¬ (1 = 0)) => ?_)
                                refine wi_iload_n (i := 2) (e := x80) (nx := 158) (r1 := 0) (r2 := 0) (r3 := 0) rfl rfl ?_
                                refine wi_iconst (n := 3) (nx := 159) (r1 := 0) (r2 := 0) (r3 := 0) rfl ?_
                                refine wi_icmp (cd := .ge) (nx := 162) (r1 := 182) (r2 := 0) (r3 := 0) rfl (by omega) (by omega) (fun (q93 : 3 ≤ x80) => ?_) (fun (q93 : ¬ (3 ≤ x80)) => by exfalso; omega)
                                refine wr_iinc (i := 2) (n := 1) (v := x80) (fun e94 => [(2, vi e94), (0, .ref 236)]) (nx := 185) (r1 := 0) (r2 := 0) (r3 := 0) rfl rfl (fun _ => rfl) (fun e94 (fe94 : e94 = x80 + 1) => ?_)
                                refine wi_goto (nx := 188) (r1 := 146) (r2 := 0) (r3 := 0) rfl ?_
                                refine wp.lo (lo := [(0, .ref 236), (2, vi e94)]) ⟨rfl, rfl, trivial⟩ rfl ?_
                                exact I81 e94 h78 ⟨rfl, (show (3 ≤ e94 ∧ e94 ≤ 800) ∧ (e94 + (h78 236 4) ≤ (h78 236 3)) by omega)⟩ (show ((h78 236 3) - (h78 236 4) - e94).toNat < ((h78 236 3) - (h78 236 4) - x80).toNat by omega)
        ·
          refine wi_iload_n (i := 0) (e := h 237 i10) (nx := 7) (r1 := 0) (r2 := 0) (r3 := 0) rfl rfl ?_
          refine wi_bipush (n := 122) (nx := 9) (r1 := 0) (r2 := 0) (r3 := 0) rfl (by decide) ?_
          refine wi_icmp (cd := .gt) (nx := 12) (r1 := 16) (r2 := 0) (r3 := 0) rfl (by omega) (by omega) (fun (q28 : 122 < (h 237 i10)) => ?_) (fun (q28 : ¬ (122 < (h 237 i10))) => ?_)
          ·
            refine wi_iconst (n := 0) (nx := 17) (r1 := 0) (r2 := 0) (r3 := 0) rfl ?_
            refine wi_zreturn (nx := 18) (r1 := 0) (r2 := 0) (r3 := 0) rfl rfl (by omega) ?_
            refine wk_i ?_
            refine wi_if (cd := .eq) (nx := 76) (r1 := 139) (r2 := 0) (r3 := 0) rfl (by omega) (fun (q29 : 0 = 0) => ?_) (fun (q29 : ¬ (0 = 0)) => by exfalso; omega)
            refine wi_iload_n (i := 1) (e := h 237 i10) (nx := 140) (r1 := 0) (r2 := 0) (r3 := 0) rfl rfl ?_
            refine wi_S (rest := []) (as := [vi (h 237 i10)]) (nx := 143) (r1 := 218) (r2 := 17) (r3 := 0) rfl rfl rfl (of_decide_eq_true rfl) rfl rfl (of_decide_eq_true rfl) (of_decide_eq_true rfl) ?_
            refine wi_iload_n (i := 0) (e := h 237 i10) (nx := 1) (r1 := 0) (r2 := 0) (r3 := 0) rfl rfl ?_
            refine wi_bipush (n := 48) (nx := 3) (r1 := 0) (r2 := 0) (r3 := 0) rfl (by decide) ?_
            refine wi_icmp (cd := .lt) (nx := 6) (r1 := 16) (r2 := 0) (r3 := 0) rfl (by omega) (by omega) (fun (q30 : (h 237 i10) < 48) => by exfalso; omega) (fun (q30 : ¬ ((h 237 i10) < 48)) => ?_)
            refine wi_iload_n (i := 0) (e := h 237 i10) (nx := 7) (r1 := 0) (r2 := 0) (r3 := 0) rfl rfl ?_
            refine wi_bipush (n := 57) (nx := 9) (r1 := 0) (r2 := 0) (r3 := 0) rfl (by decide) ?_
            refine wi_icmp (cd := .gt) (nx := 12) (r1 := 16) (r2 := 0) (r3 := 0) rfl (by omega) (by omega) (fun (q31 : 57 < (h 237 i10)) => ?_) (fun (q31 : ¬ (57 < (h 237 i10))) => by exfalso; omega)
            refine wi_iconst (n := 0) (nx := 17) (r1 := 0) (r2 := 0) (r3 := 0) rfl ?_
            refine wi_zreturn (nx := 18) (r1 := 0) (r2 := 0) (r3 := 0) rfl rfl (by omega) ?_
            refine wk_i ?_
            refine wi_if (cd := .eq) (nx := 146) (r1 := 205) (r2 := 0) (r3 := 0) rfl (by omega) (fun (q32 : 0 = 0) => ?_) (fun (q32 : ¬ (0 = 0)) => by exfalso; omega)
            refine wi_aload_n (i := 0) (x := 236) (nx := 206) (r1 := 0) (r2 := 0) (r3 := 0) rfl rfl ?_
            refine wi_iload_n (i := 1) (e := h 237 i10) (nx := 207) (r1 := 0) (r2 := 0) (r3 := 0) rfl rfl ?_
            refine wi_bipush (n := 59) (nx := 209) (r1 := 0) (r2 := 0) (r3 := 0) rfl (by decide) ?_
            refine wi_icmp (cd := .eq) (nx := 212) (r1 := 224) (r2 := 0) (r3 := 0) rfl (by omega) (by omega) (fun (q33 : (h 237 i10) = 59) => by exfalso; omega) (fun (q33 : ¬ ((h 237 i10) = 59)) => ?_)
            refine wi_iload_n (i := 1) (e := h 237 i10) (nx := 213) (r1 := 0) (r2 := 0) (r3 := 0) rfl rfl ?_
            refine wi_bipush (n := 40) (nx := 215) (r1 := 0) (r2 := 0) (r3 := 0) rfl (by decide) ?_
            refine wi_icmp (cd := .eq) (nx := 218) (r1 := 224) (r2 := 0) (r3 := 0) rfl (by omega) (by omega) (fun (q34 : (h 237 i10) = 40) => by exfalso; omega) (fun (q34 : ¬ ((h 237 i10) = 40)) => ?_)
            refine wi_iload_n (i := 1) (e := h 237 i10) (nx := 219) (r1 := 0) (r2 := 0) (r3 := 0) rfl rfl ?_
            refine wi_bipush (n := 41) (nx := 221) (r1 := 0) (r2 := 0) (r3 := 0) rfl (by decide) ?_
            refine wi_icmp (cd := .ne) (nx := 224) (r1 := 228) (r2 := 0) (r3 := 0) rfl (by omega) (by omega) (fun (q35 : (h 237 i10) ≠ 41) => ?_) (fun (q35 : ¬ ((h 237 i10) ≠ 41)) => by exfalso; omega)
            refine wi_iconst (n := 4) (nx := 229) (r1 := 0) (r2 := 0) (r3 := 0) rfl ?_
            refine wr_pf0 (k0 := 236) (x := 4) (bl := 0) (bh := 4) (nx := 232) (r1 := 11) (r2 := 6) (r3 := 0) rfl (by decide) rfl ⟨rfl, rfl⟩ rfl rfl g21 rfl (by omega) (fun h36 g36 w36 u36 => ?_)
            have F37 := F22.then rfl u36
            refine wi_aload_n (i := 0) (x := 236) (nx := 233) (r1 := 0) (r2 := 0) (r3 := 0) rfl rfl ?_
            refine wi_iload_n (i := 1) (e := h 237 i10) (nx := 234) (r1 := 0) (r2 := 0) (r3 := 0) rfl rfl ?_
            refine wr_pf0 (k0 := 236) (x := h 237 i10) (bl := 0) (bh := 999) (nx := 237) (r1 := 11) (r2 := 7) (r3 := 0) rfl (by decide) rfl ⟨rfl, rfl⟩ rfl rfl g36 rfl (by omega) (fun h38 g38 w38 u38 => ?_)
            have F39 := F37.then rfl u38
            refine wi_iconst (n := 1) (nx := 238) (r1 := 0) (r2 := 0) (r3 := 0) rfl ?_
            refine wi_istore_n (i := 2) (e := 1) (lo2 := [(2, vi 1), (1, vi (h 237 i10)), (0, .ref 236)]) (nx := 239) (r1 := 0) (r2 := 0) (r3 := 0) rfl rfl ?_
            refine wi_aload_n (i := 0) (x := 236) (nx := 240) (r1 := 0) (r2 := 0) (r3 := 0) rfl rfl ?_
            refine wi_dup (nx := 241) (r1 := 0) (r2 := 0) (r3 := 0) rfl rfl ?_
            refine wr_gi0 (k0 := 236) (x := h3 236 4) (nx := 244) (r1 := 11) (r2 := 4) (r3 := 0) rfl rfl (by decide) rfl ⟨rfl, rfl⟩ rfl ((u38 236 4 rfl).trans ((u36 236 4 rfl).trans ((u21 236 4 rfl).trans ((u19 236 4 rfl).trans (u17 236 4 rfl))))) ?_
            refine wi_iload_n (i := 2) (e := 1) (nx := 245) (r1 := 0) (r2 := 0) (r3 := 0) rfl rfl ?_
            refine wr_add (nx := 246) (r1 := 0) (r2 := 0) (r3 := 0) rfl (fun e40 (fe40 : e40 = (h3 236 4) + 1) => ?_)
            refine wr_pf0 (k0 := 236) (x := e40) (bl := 0) (bh := 800) (nx := 249) (r1 := 11) (r2 := 4) (r3 := 0) rfl (by decide) rfl ⟨rfl, rfl⟩ rfl rfl g38 rfl (by omega) (fun h41 g41 w41 u41 => ?_)
            have F42 := F39.then rfl u41
            refine wi_return (nx := 250) (r1 := 0) (r2 := 0) (r3 := 0) rfl rfl ?_
            have e43 : h41 236 4 = e40 := w41
            have e44 : h41 236 6 = 4 := ((u41 236 6 rfl).trans ((u38 236 6 rfl).trans w36))
            exact k h41 g41 F42 (show (h 236 4) ≤ (h41 236 4) by omega) (show (h41 236 4) ≤ (h 236 3) by omega) (show (h41 236 6) = 0 ∨ (h 236 4) + 1 ≤ (h41 236 4) by omega)
          ·
            refine wi_iconst (n := 1) (nx := 13) (r1 := 0) (r2 := 0) (r3 := 0) rfl ?_
            refine wi_goto (nx := 16) (r1 := 17) (r2 := 0) (r3 := 0) rfl ?_
            refine wi_zreturn (nx := 18) (r1 := 0) (r2 := 0) (r3 := 0) rfl rfl (by omega) ?_
            refine wk_i ?_
            refine wi_if (cd := .eq) (nx := 76) (r1 := 139) (r2 := 0) (r3 := 0) rfl (by omega) (fun (q29 : 1 = 0) => by exfalso; omega) (fun (q29 : ¬ (1 = 0)) => ?_)
            refine wi_aload_n (i := 0) (x := 236) (nx := 77) (r1 := 0) (r2 := 0) (r3 := 0) rfl rfl ?_
            refine wi_iload_n (i := 2) (e := 0) (nx := 78) (r1 := 0) (r2 := 0) (r3 := 0) rfl rfl ?_
            refine wr_V (k0 := 236) (rest := []) (as := [.ref 236, vi 0]) (nx := 81) (r1 := 216) (r2 := 1) (r3 := 11) rfl rfl rfl (of_decide_eq_true rfl) rfl rfl (by decide) rfl rfl (of_decide_eq_true rfl) (of_decide_eq_true rfl) ?_
            refine wi_aload_n (i := 0) (x := 236) (nx := 1) (r1 := 0) (r2 := 0) (r3 := 0) rfl rfl ?_
            refine wr_gi0 (k0 := 236) (x := h3 236 4) (nx := 4) (r1 := 11) (r2 := 4) (r3 := 0) rfl rfl (by decide) rfl ⟨rfl, rfl⟩ rfl ((u21 236 4 rfl).trans ((u19 236 4 rfl).trans (u17 236 4 rfl))) ?_
            refine wi_iload_n (i := 1) (e := 0) (nx := 5) (r1 := 0) (r2 := 0) (r3 := 0) rfl rfl ?_
            refine wr_add (nx := 6) (r1 := 0) (r2 := 0) (r3 := 0) rfl (fun e30 (fe30 : e30 = (h3 236 4) + 0) => ?_)
            refine wi_aload_n (i := 0) (x := 236) (nx := 7) (r1 := 0) (r2 := 0) (r3 := 0) rfl rfl ?_
            refine wr_gi0 (k0 := 236) (x := h 236 3) (nx := 10) (r1 := 11) (r2 := 3) (r3 := 0) rfl rfl (by decide) rfl ⟨rfl, rfl⟩ rfl ((u21 236 3 rfl).trans ((u19 236 3 rfl).trans ((u17 236 3 rfl).trans (u3 236 3 rfl)))) ?_
            refine wi_icmp (cd := .ge) (nx := 13) (r1 := 27) (r2 := 0) (r3 := 0) rfl (by omega) (by omega) (fun (q31 : (h 236 3) ≤ e30) => by exfalso; omega) (fun (q31 : ¬ ((h 236 3) ≤ e30)) => ?_)
            refine wi_aload_n (i := 0) (x := 236) (nx := 14) (r1 := 0) (r2 := 0) (r3 := 0) rfl rfl ?_
            refine wr_gr (k0 := 236) (x := 237) (nx := 17) (r1 := 11) (r2 := 1) (r3 := 0) rfl rfl (by decide) rfl ⟨rfl, rfl⟩ rfl ?_
            refine wi_aload_n (i := 0) (x := 236) (nx := 18) (r1 := 0) (r2 := 0) (r3 := 0) rfl rfl ?_
            refine wr_gi0 (k0 := 236) (x := h3 236 4) (nx := 21) (r1 := 11) (r2 := 4) (r3 := 0) rfl rfl (by decide) rfl ⟨rfl, rfl⟩ rfl ((u21 236 4 rfl).trans ((u19 236 4 rfl).trans (u17 236 4 rfl))) ?_
            refine wi_iload_n (i := 1) (e := 0) (nx := 22) (r1 := 0) (r2 := 0) (r3 := 0) rfl rfl ?_
            refine wr_add (nx := 23) (r1 := 0) (r2 := 0) (r3 := 0) rfl (fun e32 (fe32 : e32 = (h3 236 4) + 0) => ?_)
            refine wr_ia (k0 := 237) (a := e32) (f := i10) (x := h 237 i10) (nx := 24) (r1 := 0) (r2 := 0) (r3 := 0) rfl (by decide) rfl (by omega) (by omega) (by decide) ((u21 237 i10 (fn_a (by omega) fn_0)).trans ((u19 237 i10 (fn_a (by omega) fn_0)).trans ((u17 237 i10 (fn_a (by omega) fn_0)).trans (u3 237 i10 (fn_a (by omega) fn_0))))) ?_
            refine wi_goto (nx := 27) (r1 := 28) (r2 := 0) (r3 := 0) rfl ?_
            refine wi_ireturn (nx := 29) (r1 := 0) (r2 := 0) (r3 := 0) rfl rfl ?_
            refine wk_i ?_
            refine wi_S (rest := []) (as := [vi (h 237 i10)]) (nx := 84) (r1 := 217) (r2 := 17) (r3 := 0) rfl rfl rfl (of_decide_eq_true rfl) rfl rfl (of_decide_eq_true rfl) (of_decide_eq_true rfl) ?_
            refine wi_iload_n (i := 0) (e := h 237 i10) (nx := 1) (r1 := 0) (r2 := 0) (r3 := 0) rfl rfl ?_
            refine wi_bipush (n := 97) (nx := 3) (r1 := 0) (r2 := 0) (r3 := 0) rfl (by decide) ?_
            refine wi_icmp (cd := .lt) (nx := 6) (r1 := 16) (r2 := 0) (r3 := 0) rfl (by omega) (by omega) (fun (q33 : (h 237 i10) < 97) => by exfalso; omega) (fun (q33 : ¬ ((h 237 i10) < 97)) => ?_)
            refine wi_iload_n (i := 0) (e := h 237 i10) (nx := 7) (r1 := 0) (r2 := 0) (r3 := 0) rfl rfl ?_
            refine wi_bipush (n := 122) (nx := 9) (r1 := 0) (r2 := 0) (r3 := 0) rfl (by decide) ?_
            refine wi_icmp (cd := .gt) (nx := 12) (r1 := 16) (r2 := 0) (r3 := 0) rfl (by omega) (by omega) (fun (q34 : 122 < (h 237 i10)) => by exfalso; omega) (fun (q34 : ¬ (122 < (h 237 i10))) => ?_)
            refine wi_iconst (n := 1) (nx := 13) (r1 := 0) (r2 := 0) (r3 := 0) rfl ?_
            refine wi_goto (nx := 16) (r1 := 17) (r2 := 0) (r3 := 0) rfl ?_
            refine wi_zreturn (nx := 18) (r1 := 0) (r2 := 0) (r3 := 0) rfl rfl (by omega) ?_
            refine wk_i ?_
            refine wi_if (cd := .eq) (nx := 87) (r1 := 121) (r2 := 0) (r3 := 0) rfl (by omega) (fun (q35 : 1 = 0) => by exfalso; omega) (fun (q35 : ¬ (1 = 0)) => ?_)
            refine wi_iload_n (i := 2) (e := 0) (nx := 88) (r1 := 0) (r2 := 0) (r3 := 0) rfl rfl ?_
            refine wi_bipush (n := 8) (nx := 90) (r1 := 0) (r2 := 0) (r3 := 0) rfl (by decide) ?_
            refine wi_icmp (cd := .ge) (nx := 93) (r1 := 115) (r2 := 0) (r3 := 0) rfl (by omega) (by omega) (fun (q36 : 8 ≤ 0) => by exfalso; omega) (fun (q36 : ¬ (8 ≤ 0)) => ?_)
            refine wi_aload_n (i := 0) (x := 236) (nx := 94) (r1 := 0) (r2 := 0) (r3 := 0) rfl rfl ?_
            refine wi_aload_n (i := 0) (x := 236) (nx := 95) (r1 := 0) (r2 := 0) (r3 := 0) rfl rfl ?_
            refine wr_gi1 (k0 := 236) (x := 0) (nx := 98) (r1 := 11) (r2 := 12) (r3 := 0) rfl rfl (by decide) rfl ⟨rfl, rfl⟩ rfl ((u21 236 12 rfl).trans w19) ?_
            refine wi_iconst (n := 5) (nx := 99) (r1 := 0) (r2 := 0) (r3 := 0) rfl ?_
            refine wr_lshlA (nx := 100) (r1 := 0) (r2 := 0) (r3 := 0) rfl (fun e37 (fe37 : -9223372036854775808 ≤ e37 ∧ e37 ≤ 9223372036854775807) => ?_)
            refine wi_aload_n (i := 0) (x := 236) (nx := 101) (r1 := 0) (r2 := 0) (r3 := 0) rfl rfl ?_
            refine wi_iload_n (i := 2) (e := 0) (nx := 102) (r1 := 0) (r2 := 0) (r3 := 0) rfl rfl ?_
            refine wr_V (k0 := 236) (rest := [vl e37, .ref 236]) (as := [.ref 236, vi 0]) (nx := 105) (r1 := 216) (r2 := 1) (r3 := 11) rfl rfl rfl (of_decide_eq_true rfl) rfl rfl (by decide) rfl rfl (of_decide_eq_true rfl) (of_decide_eq_true rfl) ?_
            refine wi_aload_n (i := 0) (x := 236) (nx := 1) (r1 := 0) (r2 := 0) (r3 := 0) rfl rfl ?_
            refine wr_gi0 (k0 := 236) (x := h3 236 4) (nx := 4) (r1 := 11) (r2 := 4) (r3 := 0) rfl rfl (by decide) rfl ⟨rfl, rfl⟩ rfl ((u21 236 4 rfl).trans ((u19 236 4 rfl).trans (u17 236 4 rfl))) ?_
            refine wi_iload_n (i := 1) (e := 0) (nx := 5) (r1 := 0) (r2 := 0) (r3 := 0) rfl rfl ?_
            refine wr_add (nx := 6) (r1 := 0) (r2 := 0) (r3 := 0) rfl (fun e38 (fe38 : e38 = (h3 236 4) + 0) => ?_)
            refine wi_aload_n (i := 0) (x := 236) (nx := 7) (r1 := 0) (r2 := 0) (r3 := 0) rfl rfl ?_
            refine wr_gi0 (k0 := 236) (x := h 236 3) (nx := 10) (r1 := 11) (r2 := 3) (r3 := 0) rfl rfl (by decide) rfl ⟨rfl, rfl⟩ rfl ((u21 236 3 rfl).trans ((u19 236 3 rfl).trans ((u17 236 3 rfl).trans (u3 236 3 rfl)))) ?_
            refine wi_icmp (cd := .ge) (nx := 13) (r1 := 27) (r2 := 0) (r3 := 0) rfl (by omega) (by omega) (fun (q39 : (h 236 3) ≤ e38) => by exfalso; omega) (fun (q39 : ¬ ((h 236 3) ≤ e38)) => ?_)
            refine wi_aload_n (i := 0) (x := 236) (nx := 14) (r1 := 0) (r2 := 0) (r3 := 0) rfl rfl ?_
            refine wr_gr (k0 := 236) (x := 237) (nx := 17) (r1 := 11) (r2 := 1) (r3 := 0) rfl rfl (by decide) rfl ⟨rfl, rfl⟩ rfl ?_
            refine wi_aload_n (i := 0) (x := 236) (nx := 18) (r1 := 0) (r2 := 0) (r3 := 0) rfl rfl ?_
            refine wr_gi0 (k0 := 236) (x := h3 236 4) (nx := 21) (r1 := 11) (r2 := 4) (r3 := 0) rfl rfl (by decide) rfl ⟨rfl, rfl⟩ rfl ((u21 236 4 rfl).trans ((u19 236 4 rfl).trans (u17 236 4 rfl))) ?_
            refine wi_iload_n (i := 1) (e := 0) (nx := 22) (r1 := 0) (r2 := 0) (r3 := 0) rfl rfl ?_
            refine wr_add (nx := 23) (r1 := 0) (r2 := 0) (r3 := 0) rfl (fun e40 (fe40 : e40 = (h3 236 4) + 0) => ?_)
            refine wr_ia (k0 := 237) (a := e40) (f := i10) (x := h 237 i10) (nx := 24) (r1 := 0) (r2 := 0) (r3 := 0) rfl (by decide) rfl (by omega) (by omega) (by decide) ((u21 237 i10 (fn_a (by omega) fn_0)).trans ((u19 237 i10 (fn_a (by omega) fn_0)).trans ((u17 237 i10 (fn_a (by omega) fn_0)).trans (u3 237 i10 (fn_a (by omega) fn_0))))) ?_
            refine wi_goto (nx := 27) (r1 := 28) (r2 := 0) (r3 := 0) rfl ?_
            refine wi_ireturn (nx := 29) (r1 := 0) (r2 := 0) (r3 := 0) rfl rfl ?_
            refine wk_i ?_
            refine wi_bipush (n := 97) (nx := 107) (r1 := 0) (r2 := 0) (r3 := 0) rfl (by decide) ?_
            refine wr_sub (nx := 108) (r1 := 0) (r2 := 0) (r3 := 0) rfl (fun e41 (fe41 : e41 = (h 237 i10) - 97) => ?_)
            refine wi_iconst (n := 1) (nx := 109) (r1 := 0) (r2 := 0) (r3 := 0) rfl ?_
            refine wr_add (nx := 110) (r1 := 0) (r2 := 0) (r3 := 0) rfl (fun e42 (fe42 : e42 = e41 + 1) => ?_)
            refine wi_i2l (nx := 111) (r1 := 0) (r2 := 0) (r3 := 0) rfl (by omega) ?_
            refine wr_lorA (nx := 112) (r1 := 0) (r2 := 0) (r3 := 0) rfl (fun e43 (fe43 : -9223372036854775808 ≤ e43 ∧ e43 ≤ 9223372036854775807) => ?_)
            refine wr_pf1 (k0 := 236) (x := e43) (bl := -9223372036854775808) (bh := 9223372036854775807) (nx := 115) (r1 := 11) (r2 := 12) (r3 := 1) rfl (by decide) rfl ⟨rfl, rfl⟩ rfl rfl g21 rfl (by omega) (fun h44 g44 w44 u44 => ?_)
            have F45 := F22.then rfl u44
            refine wr_iincL (i := 2) (n := 1) (v := 0) (1) ([(2, vi 1), (1, vi (h 237 i10)), (0, .ref 236)]) (nx := 118) (r1 := 0) (r2 := 0) (r3 := 0) rfl rfl (by decide) rfl ?_
            refine wi_goto (nx := 121) (r1 := 76) (r2 := 0) (r3 := 0) rfl ?_
            have e48 : h44 236 4 = h3 236 4 := ((u44 236 4 rfl).trans ((u21 236 4 rfl).trans ((u19 236 4 rfl).trans (u17 236 4 rfl))))
            have e49 : h44 236 3 = h 236 3 := ((u44 236 3 rfl).trans ((u21 236 3 rfl).trans ((u19 236 3 rfl).trans ((u17 236 3 rfl).trans (u3 236 3 rfl)))))
            refine wp.lo (lo := [(0, .ref 236), (2, vi 1)]) ⟨rfl, rfl, trivial⟩ rfl ?_
            refine wl_1 (fun x46 h47 => GI h47 ∧ FR [(236, 236, some (4, 4)), (236, 236, some (5, 5)), (236, 236, some (6, 6)), (236, 236, some (7, 7)), (236, 236, some (12, 12))] h h47 ∧ FR [(236, 236, some (12, 12))] h44 h47 ∧ ((1 ≤ x46 ∧ x46 ≤ 800) ∧ (x46 + (h47 236 4) ≤ (h47 236 3)))) (fun x46 h47 => ((h47 236 3) - (h47 236 4) - x46).toNat) (fun x46 h47 => (76, [(0, .ref 236), (2, vi x46)], [], hp_w h47 cr, b, c)) ?_ 1 h44 ⟨g44, F45, FR.refl, (show (1 ≤ 1 ∧ 1 ≤ 800) ∧ (1 + (h44 236 4) ≤ (h44 236 3)) by omega)⟩
            intro x46 h47 ⟨g47, F50, u47, f47⟩ I47
            have e51 : h47 236 3 = h 236 3 := ((u47 236 3 rfl).trans ((u44 236 3 rfl).trans ((u21 236 3 rfl).trans ((u19 236 3 rfl).trans ((u17 236 3 rfl).trans (u3 236 3 rfl))))))
            have e52 : h47 236 4 = h3 236 4 := ((u47 236 4 rfl).trans ((u44 236 4 rfl).trans ((u21 236 4 rfl).trans ((u19 236 4 rfl).trans (u17 236 4 rfl)))))
            refine wi_aload_n (i := 0) (x := 236) (nx := 77) (r1 := 0) (r2 := 0) (r3 := 0) rfl rfl ?_
            refine wi_iload_n (i := 2) (e := x46) (nx := 78) (r1 := 0) (r2 := 0) (r3 := 0) rfl rfl ?_
            refine wr_V (k0 := 236) (rest := []) (as := [.ref 236, vi x46]) (nx := 81) (r1 := 216) (r2 := 1) (r3 := 11) rfl rfl rfl (of_decide_eq_true rfl) rfl rfl (by decide) rfl rfl (of_decide_eq_true rfl) (of_decide_eq_true rfl) ?_
            refine wi_aload_n (i := 0) (x := 236) (nx := 1) (r1 := 0) (r2 := 0) (r3 := 0) rfl rfl ?_
            refine wr_gi0 (k0 := 236) (x := h3 236 4) (nx := 4) (r1 := 11) (r2 := 4) (r3 := 0) rfl rfl (by decide) rfl ⟨rfl, rfl⟩ rfl ((u47 236 4 rfl).trans ((u44 236 4 rfl).trans ((u21 236 4 rfl).trans ((u19 236 4 rfl).trans (u17 236 4 rfl))))) ?_
            refine wi_iload_n (i := 1) (e := x46) (nx := 5) (r1 := 0) (r2 := 0) (r3 := 0) rfl rfl ?_
            refine wr_add (nx := 6) (r1 := 0) (r2 := 0) (r3 := 0) rfl (fun e53 (fe53 : e53 = (h3 236 4) + x46) => ?_)
            refine wi_aload_n (i := 0) (x := 236) (nx := 7) (r1 := 0) (r2 := 0) (r3 := 0) rfl rfl ?_
            refine wr_gi0 (k0 := 236) (x := h 236 3) (nx := 10) (r1 := 11) (r2 := 3) (r3 := 0) rfl rfl (by decide) rfl ⟨rfl, rfl⟩ rfl ((u47 236 3 rfl).trans ((u44 236 3 rfl).trans ((u21 236 3 rfl).trans ((u19 236 3 rfl).trans ((u17 236 3 rfl).trans (u3 236 3 rfl)))))) ?_
            refine wi_icmp (cd := .ge) (nx := 13) (r1 := 27) (r2 := 0) (r3 := 0) rfl (by omega) (by omega) (fun (q54 : (h 236 3) ≤ e53) => ?_) (fun (q54 : ¬ ((h 236 3) ≤ e53)) => ?_)
            ·
              refine wi_iconst (n := (-1)) (nx := 28) (r1 := 0) (r2 := 0) (r3 := 0) rfl ?_
              refine wi_ireturn (nx := 29) (r1 := 0) (r2 := 0) (r3 := 0) rfl rfl ?_
              refine wk_i ?_
              refine wi_S (rest := []) (as := [vi (-1)]) (nx := 84) (r1 := 217) (r2 := 17) (r3 := 0) rfl rfl rfl (of_decide_eq_true rfl) rfl rfl (of_decide_eq_true rfl) (of_decide_eq_true rfl) ?_
              refine wi_iload_n (i := 0) (e := -1) (nx := 1) (r1 := 0) (r2 := 0) (r3 := 0) rfl rfl ?_
              refine wi_bipush (n := 97) (nx := 3) (r1 := 0) (r2 := 0) (r3 := 0) rfl (by decide) ?_
              refine wi_icmp (cd := .lt) (nx := 6) (r1 := 16) (r2 := 0) (r3 := 0) rfl (by omega) (by omega) (fun (q55 : (-1) < 97) => ?_) (fun (q55 : ¬ ((-1) < 97)) => by exfalso; omega)
              refine wi_iconst (n := 0) (nx := 17) (r1 := 0) (r2 := 0) (r3 := 0) rfl ?_
              refine wi_zreturn (nx := 18) (r1 := 0) (r2 := 0) (r3 := 0) rfl rfl (by omega) ?_
              refine wk_i ?_
              refine wi_if (cd := .eq) (nx := 87) (r1 := 121) (r2 := 0) (r3 := 0) rfl (by omega) (fun (q56 : 0 = 0) => ?_) (fun (q56 : ¬ (0 = 0)) => by exfalso; omega)
              refine wi_aload_n (i := 0) (x := 236) (nx := 122) (r1 := 0) (r2 := 0) (r3 := 0) rfl rfl ?_
              refine wi_iload_n (i := 2) (e := x46) (nx := 123) (r1 := 0) (r2 := 0) (r3 := 0) rfl rfl ?_
              refine wi_bipush (n := 8) (nx := 125) (r1 := 0) (r2 := 0) (r3 := 0) rfl (by decide) ?_
              refine wi_icmp (cd := .le) (nx := 128) (r1 := 132) (r2 := 0) (r3 := 0) rfl (by omega) (by omega) (fun (q57 : x46 ≤ 8) => ?_) (fun (q57 : ¬ (x46 ≤ 8)) => ?_)
              ·
                refine wi_iconst (n := 1) (nx := 133) (r1 := 0) (r2 := 0) (r3 := 0) rfl ?_
                refine wr_pf0 (k0 := 236) (x := 1) (bl := 0) (bh := 4) (nx := 136) (r1 := 11) (r2 := 6) (r3 := 0) rfl (by decide) rfl ⟨rfl, rfl⟩ rfl rfl g47 rfl (by omega) (fun h58 g58 w58 u58 => ?_)
                have F59 := F50.then rfl u58
                refine wi_goto (nx := 139) (r1 := 239) (r2 := 0) (r3 := 0) rfl ?_
                refine wi_aload_n (i := 0) (x := 236) (nx := 240) (r1 := 0) (r2 := 0) (r3 := 0) rfl rfl ?_
                refine wi_dup (nx := 241) (r1 := 0) (r2 := 0) (r3 := 0) rfl rfl ?_
                refine wr_gi0 (k0 := 236) (x := h3 236 4) (nx := 244) (r1 := 11) (r2 := 4) (r3 := 0) rfl rfl (by decide) rfl ⟨rfl, rfl⟩ rfl ((u58 236 4 rfl).trans ((u47 236 4 rfl).trans ((u44 236 4 rfl).trans ((u21 236 4 rfl).trans ((u19 236 4 rfl).trans (u17 236 4 rfl)))))) ?_
                refine wi_iload_n (i := 2) (e := x46) (nx := 245) (r1 := 0) (r2 := 0) (r3 := 0) rfl rfl ?_
                refine wr_add (nx := 246) (r1 := 0) (r2 := 0) (r3 := 0) rfl (fun e60 (fe60 : e60 = (h3 236 4) + x46) => ?_)
                refine wr_pf0 (k0 := 236) (x := e60) (bl := 0) (bh := 800) (nx := 249) (r1 := 11) (r2 := 4) (r3 := 0) rfl (by decide) rfl ⟨rfl, rfl⟩ rfl rfl g58 rfl (by omega) (fun h61 g61 w61 u61 => ?_)
                have F62 := F59.then rfl u61
                refine wi_return (nx := 250) (r1 := 0) (r2 := 0) (r3 := 0) rfl rfl ?_
                have e63 : h61 236 4 = e60 := w61
                have e64 : h61 236 6 = 1 := ((u61 236 6 rfl).trans w58)
                exact k h61 g61 F62 (show (h 236 4) ≤ (h61 236 4) by omega) (show (h61 236 4) ≤ (h 236 3) by omega) (show (h61 236 6) = 0 ∨ (h 236 4) + 1 ≤ (h61 236 4) by omega)
              ·
                refine wi_iconst (n := 4) (nx := 129) (r1 := 0) (r2 := 0) (r3 := 0) rfl ?_
                refine wi_goto (nx := 132) (r1 := 133) (r2 := 0) (r3 := 0) rfl ?_
                refine wr_pf0 (k0 := 236) (x := 4) (bl := 0) (bh := 4) (nx := 136) (r1 := 11) (r2 := 6) (r3 := 0) rfl (by decide) rfl ⟨rfl, rfl⟩ rfl rfl g47 rfl (by omega) (fun h58 g58 w58 u58 => ?_)
                have F59 := F50.then rfl u58
                refine wi_goto (nx := 139) (r1 := 239) (r2 := 0) (r3 := 0) rfl ?_
                refine wi_aload_n (i := 0) (x := 236) (nx := 240) (r1 := 0) (r2 := 0) (r3 := 0) rfl rfl ?_
                refine wi_dup (nx := 241) (r1 := 0) (r2 := 0) (r3 := 0) rfl rfl ?_
                refine wr_gi0 (k0 := 236) (x := h3 236 4) (nx := 244) (r1 := 11) (r2 := 4) (r3 := 0) rfl rfl (by decide) rfl ⟨rfl, rfl⟩ rfl ((u58 236 4 rfl).trans ((u47 236 4 rfl).trans ((u44 236 4 rfl).trans ((u21 236 4 rfl).trans ((u19 236 4 rfl).trans (u17 236 4 rfl)))))) ?_
                refine wi_iload_n (i := 2) (e := x46) (nx := 245) (r1 := 0) (r2 := 0) (r3 := 0) rfl rfl ?_
                refine wr_add (nx := 246) (r1 := 0) (r2 := 0) (r3 := 0) rfl (fun e60 (fe60 : e60 = (h3 236 4) + x46) => ?_)
                refine wr_pf0 (k0 := 236) (x := e60) (bl := 0) (bh := 800) (nx := 249) (r1 := 11) (r2 := 4) (r3 := 0) rfl (by decide) rfl ⟨rfl, rfl⟩ rfl rfl g58 rfl (by omega) (fun h61 g61 w61 u61 => ?_)
                have F62 := F59.then rfl u61
                refine wi_return (nx := 250) (r1 := 0) (r2 := 0) (r3 := 0) rfl rfl ?_
                have e63 : h61 236 4 = e60 := w61
                have e64 : h61 236 6 = 4 := ((u61 236 6 rfl).trans w58)
                exact k h61 g61 F62 (show (h 236 4) ≤ (h61 236 4) by omega) (show (h61 236 4) ≤ (h 236 3) by omega) (show (h61 236 6) = 0 ∨ (h 236 4) + 1 ≤ (h61 236 4) by omega)
            ·
              refine wi_aload_n (i := 0) (x := 236) (nx := 14) (r1 := 0) (r2 := 0) (r3 := 0) rfl rfl ?_
              refine wr_gr (k0 := 236) (x := 237) (nx := 17) (r1 := 11) (r2 := 1) (r3 := 0) rfl rfl (by decide) rfl ⟨rfl, rfl⟩ rfl ?_
              refine wi_aload_n (i := 0) (x := 236) (nx := 18) (r1 := 0) (r2 := 0) (r3 := 0) rfl rfl ?_
              refine wr_gi0 (k0 := 236) (x := h3 236 4) (nx := 21) (r1 := 11) (r2 := 4) (r3 := 0) rfl rfl (by decide) rfl ⟨rfl, rfl⟩ rfl ((u47 236 4 rfl).trans ((u44 236 4 rfl).trans ((u21 236 4 rfl).trans ((u19 236 4 rfl).trans (u17 236 4 rfl))))) ?_
              refine wi_iload_n (i := 1) (e := x46) (nx := 22) (r1 := 0) (r2 := 0) (r3 := 0) rfl rfl ?_
              refine wr_add (nx := 23) (r1 := 0) (r2 := 0) (r3 := 0) rfl (fun e55 (fe55 : e55 = (h3 236 4) + x46) => ?_)
              obtain ⟨i56, ei56⟩ : ∃ q : Nat, e55 = (q : Int) := ⟨(e55).toNat, by omega⟩
              have b57 := gi_b (lo := 0) (hi := 255) g 237 i56 rfl
              refine wr_ia (k0 := 237) (a := e55) (f := i56) (x := h 237 i56) (nx := 24) (r1 := 0) (r2 := 0) (r3 := 0) rfl (by decide) rfl (by omega) (by omega) (by decide) ((u47 237 i56 (fn_a (by omega) fn_0)).trans ((u44 237 i56 (fn_a (by omega) fn_0)).trans ((u21 237 i56 (fn_a (by omega) fn_0)).trans ((u19 237 i56 (fn_a (by omega) fn_0)).trans ((u17 237 i56 (fn_a (by omega) fn_0)).trans (u3 237 i56 (fn_a (by omega) fn_0))))))) ?_
              refine wi_goto (nx := 27) (r1 := 28) (r2 := 0) (r3 := 0) rfl ?_
              refine wi_ireturn (nx := 29) (r1 := 0) (r2 := 0) (r3 := 0) rfl rfl ?_
              refine wk_i ?_
              refine wi_S (rest := []) (as := [vi (h 237 i56)]) (nx := 84) (r1 := 217) (r2 := 17) (r3 := 0) rfl rfl rfl (of_decide_eq_true rfl) rfl rfl (of_decide_eq_true rfl) (of_decide_eq_true rfl) ?_
              refine wi_iload_n (i := 0) (e := h 237 i56) (nx := 1) (r1 := 0) (r2 := 0) (r3 := 0) rfl rfl ?_
              refine wi_bipush (n := 97) (nx := 3) (r1 := 0) (r2 := 0) (r3 := 0) rfl (by decide) ?_
              refine wi_icmp (cd := .lt) (nx := 6) (r1 := 16) (r2 := 0) (r3 := 0) rfl (by omega) (by omega) (fun (q58 : (h 237 i56) < 97) => ?_) (fun (q58 : ¬ ((h 237 i56) < 97)) => ?_)
              ·
                refine wi_iconst (n := 0) (nx := 17) (r1 := 0) (r2 := 0) (r3 := 0) rfl ?_
                refine wi_zreturn (nx := 18) (r1 := 0) (r2 := 0) (r3 := 0) rfl rfl (by omega) ?_
                refine wk_i ?_
                refine wi_if (cd := .eq) (nx := 87) (r1 := 121) (r2 := 0) (r3 := 0) rfl (by omega) (fun (q59 : 0 = 0) => ?_) (fun (q59 : ¬ (0 = 0)) => by exfalso; omega)
                refine wi_aload_n (i := 0) (x := 236) (nx := 122) (r1 := 0) (r2 := 0) (r3 := 0) rfl rfl ?_
                refine wi_iload_n (i := 2) (e := x46) (nx := 123) (r1 := 0) (r2 := 0) (r3 := 0) rfl rfl ?_
                refine wi_bipush (n := 8) (nx := 125) (r1 := 0) (r2 := 0) (r3 := 0) rfl (by decide) ?_
                refine wi_icmp (cd := .le) (nx := 128) (r1 := 132) (r2 := 0) (r3 := 0) rfl (by omega) (by omega) (fun (q60 : x46 ≤ 8) => ?_) (fun (q60 : ¬ (x46 ≤ 8)) => ?_)
                ·
                  refine wi_iconst (n := 1) (nx := 133) (r1 := 0) (r2 := 0) (r3 := 0) rfl ?_
                  refine wr_pf0 (k0 := 236) (x := 1) (bl := 0) (bh := 4) (nx := 136) (r1 := 11) (r2 := 6) (r3 := 0) rfl (by decide) rfl ⟨rfl, rfl⟩ rfl rfl g47 rfl (by omega) (fun h61 g61 w61 u61 => ?_)
                  have F62 := F50.then rfl u61
                  refine wi_goto (nx := 139) (r1 := 239) (r2 := 0) (r3 := 0) rfl ?_
                  refine wi_aload_n (i := 0) (x := 236) (nx := 240) (r1 := 0) (r2 := 0) (r3 := 0) rfl rfl ?_
                  refine wi_dup (nx := 241) (r1 := 0) (r2 := 0) (r3 := 0) rfl rfl ?_
                  refine wr_gi0 (k0 := 236) (x := h3 236 4) (nx := 244) (r1 := 11) (r2 := 4) (r3 := 0) rfl rfl (by decide) rfl ⟨rfl, rfl⟩ rfl ((u61 236 4 rfl).trans ((u47 236 4 rfl).trans ((u44 236 4 rfl).trans ((u21 236 4 rfl).trans ((u19 236 4 rfl).trans (u17 236 4 rfl)))))) ?_
                  refine wi_iload_n (i := 2) (e := x46) (nx := 245) (r1 := 0) (r2 := 0) (r3 := 0) rfl rfl ?_
                  refine wr_add (nx := 246) (r1 := 0) (r2 := 0) (r3 := 0) rfl (fun e63 (fe63 : e63 = (h3 236 4) + x46) => ?_)
                  refine wr_pf0 (k0 := 236) (x := e63) (bl := 0) (bh := 800) (nx := 249) (r1 := 11) (r2 := 4) (r3 := 0) rfl (by decide) rfl ⟨rfl, rfl⟩ rfl rfl g61 rfl (by omega) (fun h64 g64 w64 u64 => ?_)
                  have F65 := F62.then rfl u64
                  refine wi_return (nx := 250) (r1 := 0) (r2 := 0) (r3 := 0) rfl rfl ?_
                  have e66 : h64 236 4 = e63 := w64
                  have e67 : h64 236 6 = 1 := ((u64 236 6 rfl).trans w61)
                  exact k h64 g64 F65 (show (h 236 4) ≤ (h64 236 4) by omega) (show (h64 236 4) ≤ (h 236 3) by omega) (show (h64 236 6) = 0 ∨ (h 236 4) + 1 ≤ (h64 236 4) by omega)
                ·
                  refine wi_iconst (n := 4) (nx := 129) (r1 := 0) (r2 := 0) (r3 := 0) rfl ?_
                  refine wi_goto (nx := 132) (r1 := 133) (r2 := 0) (r3 := 0) rfl ?_
                  refine wr_pf0 (k0 := 236) (x := 4) (bl := 0) (bh := 4) (nx := 136) (r1 := 11) (r2 := 6) (r3 := 0) rfl (by decide) rfl ⟨rfl, rfl⟩ rfl rfl g47 rfl (by omega) (fun h61 g61 w61 u61 => ?_)
                  have F62 := F50.then rfl u61
                  refine wi_goto (nx := 139) (r1 := 239) (r2 := 0) (r3 := 0) rfl ?_
                  refine wi_aload_n (i := 0) (x := 236) (nx := 240) (r1 := 0) (r2 := 0) (r3 := 0) rfl rfl ?_
                  refine wi_dup (nx := 241) (r1 := 0) (r2 := 0) (r3 := 0) rfl rfl ?_
                  refine wr_gi0 (k0 := 236) (x := h3 236 4) (nx := 244) (r1 := 11) (r2 := 4) (r3 := 0) rfl rfl (by decide) rfl ⟨rfl, rfl⟩ rfl ((u61 236 4 rfl).trans ((u47 236 4 rfl).trans ((u44 236 4 rfl).trans ((u21 236 4 rfl).trans ((u19 236 4 rfl).trans (u17 236 4 rfl)))))) ?_
                  refine wi_iload_n (i := 2) (e := x46) (nx := 245) (r1 := 0) (r2 := 0) (r3 := 0) rfl rfl ?_
                  refine wr_add (nx := 246) (r1 := 0) (r2 := 0) (r3 := 0) rfl (fun e63 (fe63 : e63 = (h3 236 4) + x46) => ?_)
                  refine wr_pf0 (k0 := 236) (x := e63) (bl := 0) (bh := 800) (nx := 249) (r1 := 11) (r2 := 4) (r3 := 0) rfl (by decide) rfl ⟨rfl, rfl⟩ rfl rfl g61 rfl (by omega) (fun h64 g64 w64 u64 => ?_)
                  have F65 := F62.then rfl u64
                  refine wi_return (nx := 250) (r1 := 0) (r2 := 0) (r3 := 0) rfl rfl ?_
                  have e66 : h64 236 4 = e63 := w64
                  have e67 : h64 236 6 = 4 := ((u64 236 6 rfl).trans w61)
                  exact k h64 g64 F65 (show (h 236 4) ≤ (h64 236 4) by omega) (show (h64 236 4) ≤ (h 236 3) by omega) (show (h64 236 6) = 0 ∨ (h 236 4) + 1 ≤ (h64 236 4) by omega)
              ·
                refine wi_iload_n (i := 0) (e := h 237 i56) (nx := 7) (r1 := 0) (r2 := 0) (r3 := 0) rfl rfl ?_
                refine wi_bipush (n := 122) (nx := 9) (r1 := 0) (r2 := 0) (r3 := 0) rfl (by decide) ?_
                refine wi_icmp (cd := .gt) (nx := 12) (r1 := 16) (r2 := 0) (r3 := 0) rfl (by omega) (by omega) (fun (q59 : 122 < (h 237 i56)) => ?_) (fun (q59 : ¬ (122 < (h 237 i56))) => ?_)
                ·
                  refine wi_iconst (n := 0) (nx := 17) (r1 := 0) (r2 := 0) (r3 := 0) rfl ?_
                  refine wi_zreturn (nx := 18) (r1 := 0) (r2 := 0) (r3 := 0) rfl rfl (by omega) ?_
                  refine wk_i ?_
                  refine wi_if (cd := .eq) (nx := 87) (r1 := 121) (r2 := 0) (r3 := 0) rfl (by omega) (fun (q60 : 0 = 0) => ?_) (fun (q60 : ¬ (0 = 0)) => by exfalso; omega)
                  refine wi_aload_n (i := 0) (x := 236) (nx := 122) (r1 := 0) (r2 := 0) (r3 := 0) rfl rfl ?_
                  refine wi_iload_n (i := 2) (e := x46) (nx := 123) (r1 := 0) (r2 := 0) (r3 := 0) rfl rfl ?_
                  refine wi_bipush (n := 8) (nx := 125) (r1 := 0) (r2 := 0) (r3 := 0) rfl (by decide) ?_
                  refine wi_icmp (cd := .le) (nx := 128) (r1 := 132) (r2 := 0) (r3 := 0) rfl (by omega) (by omega) (fun (q61 : x46 ≤ 8) => ?_) (fun (q61 : ¬ (x46 ≤ 8)) => ?_)
                  ·
                    refine wi_iconst (n := 1) (nx := 133) (r1 := 0) (r2 := 0) (r3 := 0) rfl ?_
                    refine wr_pf0 (k0 := 236) (x := 1) (bl := 0) (bh := 4) (nx := 136) (r1 := 11) (r2 := 6) (r3 := 0) rfl (by decide) rfl ⟨rfl, rfl⟩ rfl rfl g47 rfl (by omega) (fun h62 g62 w62 u62 => ?_)
                    have F63 := F50.then rfl u62
                    refine wi_goto (nx := 139) (r1 := 239) (r2 := 0) (r3 := 0) rfl ?_
                    refine wi_aload_n (i := 0) (x := 236) (nx := 240) (r1 := 0) (r2 := 0) (r3 := 0) rfl rfl ?_
                    refine wi_dup (nx := 241) (r1 := 0) (r2 := 0) (r3 := 0) rfl rfl ?_
                    refine wr_gi0 (k0 := 236) (x := h3 236 4) (nx := 244) (r1 := 11) (r2 := 4) (r3 := 0) rfl rfl (by decide) rfl ⟨rfl, rfl⟩ rfl ((u62 236 4 rfl).trans ((u47 236 4 rfl).trans ((u44 236 4 rfl).trans ((u21 236 4 rfl).trans ((u19 236 4 rfl).trans (u17 236 4 rfl)))))) ?_
                    refine wi_iload_n (i := 2) (e := x46) (nx := 245) (r1 := 0) (r2 := 0) (r3 := 0) rfl rfl ?_
                    refine wr_add (nx := 246) (r1 := 0) (r2 := 0) (r3 := 0) rfl (fun e64 (fe64 : e64 = (h3 236 4) + x46) => ?_)
                    refine wr_pf0 (k0 := 236) (x := e64) (bl := 0) (bh := 800) (nx := 249) (r1 := 11) (r2 := 4) (r3 := 0) rfl (by decide) rfl ⟨rfl, rfl⟩ rfl rfl g62 rfl (by omega) (fun h65 g65 w65 u65 => ?_)
                    have F66 := F63.then rfl u65
                    refine wi_return (nx := 250) (r1 := 0) (r2 := 0) (r3 := 0) rfl rfl ?_
                    have e67 : h65 236 4 = e64 := w65
                    have e68 : h65 236 6 = 1 := ((u65 236 6 rfl).trans w62)
                    exact k h65 g65 F66 (show (h 236 4) ≤ (h65 236 4) by omega) (show (h65 236 4) ≤ (h 236 3) by omega) (show (h65 236 6) = 0 ∨ (h 236 4) + 1 ≤ (h65 236 4) by omega)
                  ·
                    refine wi_iconst (n := 4) (nx := 129) (r1 := 0) (r2 := 0) (r3 := 0) rfl ?_
                    refine wi_goto (nx := 132) (r1 := 133) (r2 := 0) (r3 := 0) rfl ?_
                    refine wr_pf0 (k0 := 236) (x := 4) (bl := 0) (bh := 4) (nx := 136) (r1 := 11) (r2 := 6) (r3 := 0) rfl (by decide) rfl ⟨rfl, rfl⟩ rfl rfl g47 rfl (by omega) (fun h62 g62 w62 u62 => ?_)
                    have F63 := F50.then rfl u62
                    refine wi_goto (nx := 139) (r1 := 239) (r2 := 0) (r3 := 0) rfl ?_
                    refine wi_aload_n (i := 0) (x := 236) (nx := 240) (r1 := 0) (r2 := 0) (r3 := 0) rfl rfl ?_
                    refine wi_dup (nx := 241) (r1 := 0) (r2 := 0) (r3 := 0) rfl rfl ?_
                    refine wr_gi0 (k0 := 236) (x := h3 236 4) (nx := 244) (r1 := 11) (r2 := 4) (r3 := 0) rfl rfl (by decide) rfl ⟨rfl, rfl⟩ rfl ((u62 236 4 rfl).trans ((u47 236 4 rfl).trans ((u44 236 4 rfl).trans ((u21 236 4 rfl).trans ((u19 236 4 rfl).trans (u17 236 4 rfl)))))) ?_
                    refine wi_iload_n (i := 2) (e := x46) (nx := 245) (r1 := 0) (r2 := 0) (r3 := 0) rfl rfl ?_
                    refine wr_add (nx := 246) (r1 := 0) (r2 := 0) (r3 := 0) rfl (fun e64 (fe64 : e64 = (h3 236 4) + x46) => ?_)
                    refine wr_pf0 (k0 := 236) (x := e64) (bl := 0) (bh := 800) (nx := 249) (r1 := 11) (r2 := 4) (r3 := 0) rfl (by decide) rfl ⟨rfl, rfl⟩ rfl rfl g62 rfl (by omega) (fun h65 g65 w65 u65 => ?_)
                    have F66 := F63.then rfl u65
                    refine wi_return (nx := 250) (r1 := 0) (r2 := 0) (r3 := 0) rfl rfl ?_
                    have e67 : h65 236 4 = e64 := w65
                    have e68 : h65 236 6 = 4 := ((u65 236 6 rfl).trans w62)
                    exact k h65 g65 F66 (show (h 236 4) ≤ (h65 236 4) by omega) (show (h65 236 4) ≤ (h 236 3) by omega) (show (h65 236 6) = 0 ∨ (h 236 4) + 1 ≤ (h65 236 4) by omega)
                ·
                  refine wi_iconst (n := 1) (nx := 13) (r1 := 0) (r2 := 0) (r3 := 0) rfl ?_
                  refine wi_goto (nx := 16) (r1 := 17) (r2 := 0) (r3 := 0) rfl ?_
                  refine wi_zreturn (nx := 18) (r1 := 0) (r2 := 0) (r3 := 0) rfl rfl (by omega) ?_
                  refine wk_i ?_
                  refine wi_if (cd := .eq) (nx := 87) (r1 := 121) (r2 := 0) (r3 := 0) rfl (by omega) (fun (q60 : 1 = 0) => by exfalso; omega) (fun (q60 : ¬ (1 = 0)) => ?_)
                  refine wi_iload_n (i := 2) (e := x46) (nx := 88) (r1 := 0) (r2 := 0) (r3 := 0) rfl rfl ?_
                  refine wi_bipush (n := 8) (nx := 90) (r1 := 0) (r2 := 0) (r3 := 0) rfl (by decide) ?_
                  refine wi_icmp (cd := .ge) (nx := 93) (r1 := 115) (r2 := 0) (r3 := 0) rfl (by omega) (by omega) (fun (q61 : 8 ≤ x46) => ?_) (fun (q61 : ¬ (8 ≤ x46)) => ?_)
                  ·
                    refine wr_iinc (i := 2) (n := 1) (v := x46) (fun e62 => [(2, vi e62), (0, .ref 236)]) (nx := 118) (r1 := 0) (r2 := 0) (r3 := 0) rfl rfl (fun _ => rfl) (fun e62 (fe62 : e62 = x46 + 1) => ?_)
                    refine wi_goto (nx := 121) (r1 := 76) (r2 := 0) (r3 := 0) rfl ?_
                    refine wp.lo (lo := [(0, .ref 236), (2, vi e62)]) ⟨rfl, rfl, trivial⟩ rfl ?_
                    exact I47 e62 h47 ⟨g47, F50, u47, (show (1 ≤ e62 ∧ e62 ≤ 800) ∧ (e62 + (h47 236 4) ≤ (h47 236 3)) by omega)⟩ (show ((h47 236 3) - (h47 236 4) - e62).toNat < ((h47 236 3) - (h47 236 4) - x46).toNat by omega)
                  ·
                    refine wi_aload_n (i := 0) (x := 236) (nx := 94) (r1 := 0) (r2 := 0) (r3 := 0) rfl rfl ?_
                    refine wi_aload_n (i := 0) (x := 236) (nx := 95) (r1 := 0) (r2 := 0) (r3 := 0) rfl rfl ?_
                    have b62 := gi_b (lo := -9223372036854775808) (hi := 9223372036854775807) g47 236 12 rfl
                    refine wr_gi1 (k0 := 236) (x := h47 236 12) (nx := 98) (r1 := 11) (r2 := 12) (r3 := 0) rfl rfl (by decide) rfl ⟨rfl, rfl⟩ rfl rfl ?_
                    refine wi_iconst (n := 5) (nx := 99) (r1 := 0) (r2 := 0) (r3 := 0) rfl ?_
                    refine wr_lshlA (nx := 100) (r1 := 0) (r2 := 0) (r3 := 0) rfl (fun e63 (fe63 : -9223372036854775808 ≤ e63 ∧ e63 ≤ 9223372036854775807) => ?_)
                    refine wi_aload_n (i := 0) (x := 236) (nx := 101) (r1 := 0) (r2 := 0) (r3 := 0) rfl rfl ?_
                    refine wi_iload_n (i := 2) (e := x46) (nx := 102) (r1 := 0) (r2 := 0) (r3 := 0) rfl rfl ?_
                    refine wr_V (k0 := 236) (rest := [vl e63, .ref 236]) (as := [.ref 236, vi x46]) (nx := 105) (r1 := 216) (r2 := 1) (r3 := 11) rfl rfl rfl (of_decide_eq_true rfl) rfl rfl (by decide) rfl rfl (of_decide_eq_true rfl) (of_decide_eq_true rfl) ?_
                    refine wi_aload_n (i := 0) (x := 236) (nx := 1) (r1 := 0) (r2 := 0) (r3 := 0) rfl rfl ?_
                    refine wr_gi0 (k0 := 236) (x := h3 236 4) (nx := 4) (r1 := 11) (r2 := 4) (r3 := 0) rfl rfl (by decide) rfl ⟨rfl, rfl⟩ rfl ((u47 236 4 rfl).trans ((u44 236 4 rfl).trans ((u21 236 4 rfl).trans ((u19 236 4 rfl).trans (u17 236 4 rfl))))) ?_
                    refine wi_iload_n (i := 1) (e := x46) (nx := 5) (r1 := 0) (r2 := 0) (r3 := 0) rfl rfl ?_
                    refine wr_add (nx := 6) (r1 := 0) (r2 := 0) (r3 := 0) rfl (fun e64 (fe64 : e64 = (h3 236 4) + x46) => ?_)
                    refine wi_aload_n (i := 0) (x := 236) (nx := 7) (r1 := 0) (r2 := 0) (r3 := 0) rfl rfl ?_
                    refine wr_gi0 (k0 := 236) (x := h 236 3) (nx := 10) (r1 := 11) (r2 := 3) (r3 := 0) rfl rfl (by decide) rfl ⟨rfl, rfl⟩ rfl ((u47 236 3 rfl).trans ((u44 236 3 rfl).trans ((u21 236 3 rfl).trans ((u19 236 3 rfl).trans ((u17 236 3 rfl).trans (u3 236 3 rfl)))))) ?_
                    refine wi_icmp (cd := .ge) (nx := 13) (r1 := 27) (r2 := 0) (r3 := 0) rfl (by omega) (by omega) (fun (q65 : (h 236 3) ≤ e64) => by exfalso; omega) (fun (q65 : ¬ ((h 236 3) ≤ e64)) => ?_)
                    refine wi_aload_n (i := 0) (x := 236) (nx := 14) (r1 := 0) (r2 := 0) (r3 := 0) rfl rfl ?_
                    refine wr_gr (k0 := 236) (x := 237) (nx := 17) (r1 := 11) (r2 := 1) (r3 := 0) rfl rfl (by decide) rfl ⟨rfl, rfl⟩ rfl ?_
                    refine wi_aload_n (i := 0) (x := 236) (nx := 18) (r1 := 0) (r2 := 0) (r3 := 0) rfl rfl ?_
                    refine wr_gi0 (k0 := 236) (x := h3 236 4) (nx := 21) (r1 := 11) (r2 := 4) (r3 := 0) rfl rfl (by decide) rfl ⟨rfl, rfl⟩ rfl ((u47 236 4 rfl).trans ((u44 236 4 rfl).trans ((u21 236 4 rfl).trans ((u19 236 4 rfl).trans (u17 236 4 rfl))))) ?_
                    refine wi_iload_n (i := 1) (e := x46) (nx := 22) (r1 := 0) (r2 := 0) (r3 := 0) rfl rfl ?_
                    refine wr_add (nx := 23) (r1 := 0) (r2 := 0) (r3 := 0) rfl (fun e66 (fe66 : e66 = (h3 236 4) + x46) => ?_)
                    refine wr_ia (k0 := 237) (a := e66) (f := i56) (x := h 237 i56) (nx := 24) (r1 := 0) (r2 := 0) (r3 := 0) rfl (by decide) rfl (by omega) (by omega) (by decide) ((u47 237 i56 (fn_a (by omega) fn_0)).trans ((u44 237 i56 (fn_a (by omega) fn_0)).trans ((u21 237 i56 (fn_a (by omega) fn_0)).trans ((u19 237 i56 (fn_a (by omega) fn_0)).trans ((u17 237 i56 (fn_a (by omega) fn_0)).trans (u3 237 i56 (fn_a (by omega) fn_0))))))) ?_
                    refine wi_goto (nx := 27) (r1 := 28) (r2 := 0) (r3 := 0) rfl ?_
                    refine wi_ireturn (nx := 29) (r1 := 0) (r2 := 0) (r3 := 0) rfl rfl ?_
                    refine wk_i ?_
                    refine wi_bipush (n := 97) (nx := 107) (r1 := 0) (r2 := 0) (r3 := 0) rfl (by decide) ?_
                    refine wr_sub (nx := 108) (r1 := 0) (r2 := 0) (r3 := 0) rfl (fun e67 (fe67 : e67 = (h 237 i56) - 97) => ?_)
                    refine wi_iconst (n := 1) (nx := 109) (r1 := 0) (r2 := 0) (r3 := 0) rfl ?_
                    refine wr_add (nx := 110) (r1 := 0) (r2 := 0) (r3 := 0) rfl (fun e68 (fe68 : e68 = e67 + 1) => ?_)
                    refine wi_i2l (nx := 111) (r1 := 0) (r2 := 0) (r3 := 0) rfl (by omega) ?_
                    refine wr_lorA (nx := 112) (r1 := 0) (r2 := 0) (r3 := 0) rfl (fun e69 (fe69 : -9223372036854775808 ≤ e69 ∧ e69 ≤ 9223372036854775807) => ?_)
                    refine wr_pf1 (k0 := 236) (x := e69) (bl := -9223372036854775808) (bh := 9223372036854775807) (nx := 115) (r1 := 11) (r2 := 12) (r3 := 1) rfl (by decide) rfl ⟨rfl, rfl⟩ rfl rfl g47 rfl (by omega) (fun h70 g70 w70 u70 => ?_)
                    have F71 := F50.then rfl u70
                    have F72 := u47.then rfl u70
                    refine wr_iinc (i := 2) (n := 1) (v := x46) (fun e73 => [(2, vi e73), (0, .ref 236)]) (nx := 118) (r1 := 0) (r2 := 0) (r3 := 0) rfl rfl (fun _ => rfl) (fun e73 (fe73 : e73 = x46 + 1) => ?_)
                    refine wi_goto (nx := 121) (r1 := 76) (r2 := 0) (r3 := 0) rfl ?_
                    have e74 : h70 236 4 = h3 236 4 := ((u70 236 4 rfl).trans ((u47 236 4 rfl).trans ((u44 236 4 rfl).trans ((u21 236 4 rfl).trans ((u19 236 4 rfl).trans (u17 236 4 rfl))))))
                    have e75 : h70 236 3 = h 236 3 := ((u70 236 3 rfl).trans ((u47 236 3 rfl).trans ((u44 236 3 rfl).trans ((u21 236 3 rfl).trans ((u19 236 3 rfl).trans ((u17 236 3 rfl).trans (u3 236 3 rfl)))))))
                    refine wp.lo (lo := [(0, .ref 236), (2, vi e73)]) ⟨rfl, rfl, trivial⟩ rfl ?_
                    exact I47 e73 h70 ⟨g70, F71, F72, (show (1 ≤ e73 ∧ e73 ≤ 800) ∧ (e73 + (h70 236 4) ≤ (h70 236 3)) by omega)⟩ (show ((h70 236 3) - (h70 236 4) - e73).toNat < ((h47 236 3) - (h47 236 4) - x46).toNat by omega)
      ·
        refine wi_aload_n (i := 0) (x := 236) (nx := 21) (r1 := 0) (r2 := 0) (r3 := 0) rfl rfl ?_
        refine wi_dup (nx := 22) (r1 := 0) (r2 := 0) (r3 := 0) rfl rfl ?_
        refine wr_gi0 (k0 := 236) (x := h3 236 4) (nx := 25) (r1 := 11) (r2 := 4) (r3 := 0) rfl rfl (by decide) rfl ⟨rfl, rfl⟩ rfl rfl ?_
        refine wi_iconst (n := 1) (nx := 26) (r1 := 0) (r2 := 0) (r3 := 0) rfl ?_
        refine wr_add (nx := 27) (r1 := 0) (r2 := 0) (r3 := 0) rfl (fun e17 (fe17 : e17 = (h3 236 4) + 1) => ?_)
        refine wr_pf0 (k0 := 236) (x := e17) (bl := 0) (bh := 800) (nx := 30) (r1 := 11) (r2 := 4) (r3 := 0) rfl (by decide) rfl ⟨rfl, rfl⟩ rfl rfl g3 rfl (by omega) (fun h18 g18 w18 u18 => ?_)
        have F19 := F4.then rfl u18
        have F20 := u3.then rfl u18
        refine wi_goto (nx := 33) (r1 := 0) (r2 := 0) (r3 := 0) rfl ?_
        have e21 : h18 236 4 = e17 := w18
        have e22 : h18 236 3 = h 236 3 := ((u18 236 3 rfl).trans (u3 236 3 rfl))
        exact I3 h18 ⟨g18, F19, F20, (show ((h18 236 4) ≤ (h18 236 3)) ∧ ((h 236 4) ≤ (h18 236 4)) by omega)⟩ (show ((h18 236 3) - (h18 236 4)).toNat < ((h3 236 3) - (h3 236 4)).toNat by omega)
-- method 214: Model.beginsText()V
set_option maxHeartbeats 100000000 in
theorem ct_214_236 {L : Nat} {xs : Nat → Int32} {d b c : Nat} {h : hp} {cr : Nat → Nat → Option Nat} {Q : hp_Q} (hcr : CR cr)  (g : GI h)    (k : ∀ (h2 : hp) , GI h2 → FR [(236, 236, some (2, 2)), (236, 236, some (3, 3)), (236, 236, some (4, 4)), (236, 236, some (5, 5)), (236, 236, some (6, 6)), (236, 236, some (7, 7)), (236, 236, some (8, 8)), (236, 236, some (9, 9)), (236, 236, some (12, 12))] h h2 → (h2 236 8 = 0) → (h2 236 4 ≤ h2 236 3) → (h2 236 2 = 0) → Q (.inl none) (hp_w h2 cr) b c) : wp (md_xa (L, xs)) (d + 2) 214 (0, [(0, .ref 236)], [], hp_w h cr, b, c) Q := by
  have F0 : FR [(236, 236, some (2, 2)), (236, 236, some (3, 3)), (236, 236, some (4, 4)), (236, 236, some (5, 5)), (236, 236, some (6, 6)), (236, 236, some (7, 7)), (236, 236, some (8, 8)), (236, 236, some (9, 9)), (236, 236, some (12, 12))] h h := FR.refl
  refine wi_aload_n (i := 0) (x := 236) (nx := 1) (r1 := 0) (r2 := 0) (r3 := 0) rfl rfl ?_
  refine wi_aload_n (i := 0) (x := 236) (nx := 2) (r1 := 0) (r2 := 0) (r3 := 0) rfl rfl ?_
  have b1 := gi_b (lo := 0) (hi := 800) g 236 2 rfl
  refine wr_gi0 (k0 := 236) (x := h 236 2) (nx := 5) (r1 := 11) (r2 := 2) (r3 := 0) rfl rfl (by decide) rfl ⟨rfl, rfl⟩ rfl rfl ?_
  refine wr_pf0 (k0 := 236) (x := h 236 2) (bl := 0) (bh := 800) (nx := 8) (r1 := 11) (r2 := 3) (r3 := 0) rfl (by decide) rfl ⟨rfl, rfl⟩ rfl rfl g rfl (by omega) (fun h2 g2 w2 u2 => ?_)
  have F3 := F0.then rfl u2
  refine wi_aload_n (i := 0) (x := 236) (nx := 9) (r1 := 0) (r2 := 0) (r3 := 0) rfl rfl ?_
  refine wi_iconst (n := 0) (nx := 10) (r1 := 0) (r2 := 0) (r3 := 0) rfl ?_
  refine wr_pf0 (k0 := 236) (x := 0) (bl := 0) (bh := 800) (nx := 13) (r1 := 11) (r2 := 2) (r3 := 0) rfl (by decide) rfl ⟨rfl, rfl⟩ rfl rfl g2 rfl (by omega) (fun h4 g4 w4 u4 => ?_)
  have F5 := F3.then rfl u4
  refine wi_aload_n (i := 0) (x := 236) (nx := 14) (r1 := 0) (r2 := 0) (r3 := 0) rfl rfl ?_
  refine wi_iconst (n := 0) (nx := 15) (r1 := 0) (r2 := 0) (r3 := 0) rfl ?_
  refine wr_pf0 (k0 := 236) (x := 0) (bl := 0) (bh := 800) (nx := 18) (r1 := 11) (r2 := 4) (r3 := 0) rfl (by decide) rfl ⟨rfl, rfl⟩ rfl rfl g4 rfl (by omega) (fun h6 g6 w6 u6 => ?_)
  have F7 := F5.then rfl u6
  refine wi_aload_n (i := 0) (x := 236) (nx := 19) (r1 := 0) (r2 := 0) (r3 := 0) rfl rfl ?_
  refine wi_iconst (n := 0) (nx := 20) (r1 := 0) (r2 := 0) (r3 := 0) rfl ?_
  refine wr_pf0 (k0 := 236) (x := 0) (bl := 0) (bh := 5) (nx := 23) (r1 := 11) (r2 := 8) (r3 := 0) rfl (by decide) rfl ⟨rfl, rfl⟩ rfl rfl g6 rfl (by omega) (fun h8 g8 w8 u8 => ?_)
  have F9 := F7.then rfl u8
  refine wi_aload_n (i := 0) (x := 236) (nx := 24) (r1 := 0) (r2 := 0) (r3 := 0) rfl rfl ?_
  refine wi_iconst (n := (-1)) (nx := 25) (r1 := 0) (r2 := 0) (r3 := 0) rfl ?_
  refine wr_pf0 (k0 := 236) (x := -1) (bl := -2147483648) (bh := 2147483647) (nx := 28) (r1 := 11) (r2 := 9) (r3 := 0) rfl (by decide) rfl ⟨rfl, rfl⟩ rfl rfl g8 rfl (by omega) (fun h10 g10 w10 u10 => ?_)
  have F11 := F9.then rfl u10
  refine wi_aload_n (i := 0) (x := 236) (nx := 29) (r1 := 0) (r2 := 0) (r3 := 0) rfl rfl ?_
  refine wr_V (k0 := 236) (rest := []) (as := [.ref 236]) (nx := 32) (r1 := 215) (r2 := 0) (r3 := 11) rfl rfl rfl (of_decide_eq_true rfl) rfl rfl (by decide) rfl rfl (of_decide_eq_true rfl) (of_decide_eq_true rfl) ?_
  have e13 : h10 236 4 = 0 := ((u10 236 4 rfl).trans ((u8 236 4 rfl).trans w6))
  have e14 : h10 236 3 = h 236 2 := ((u10 236 3 rfl).trans ((u8 236 3 rfl).trans ((u6 236 3 rfl).trans ((u4 236 3 rfl).trans w2))))
  refine ct_215_236 hcr  g10   (show (h10 236 4) ≤ (h10 236 3) by omega) (fun h12 g12 u12 (p12_0 : (h10 236 4) ≤ (h12 236 4)) (p12_1 : (h12 236 4) ≤ (h10 236 3)) (p12_2 : (h12 236 6) = 0 ∨ (h10 236 4) + 1 ≤ (h12 236 4)) => ?_)
  have F15 := F11.then (by decide +kernel) u12
  have b16 := gi_b (lo := 0) (hi := 800) g12 236 4 rfl
  have b17 := gi_b (lo := 0) (hi := 4) g12 236 6 rfl
  refine wk_n ?_
  refine wi_return (nx := 33) (r1 := 0) (r2 := 0) (r3 := 0) rfl rfl ?_
  have e18 : h12 236 8 = 0 := ((u12 236 8 rfl).trans ((u10 236 8 rfl).trans w8))
  have e19 : h12 236 3 = h 236 2 := ((u12 236 3 rfl).trans ((u10 236 3 rfl).trans ((u8 236 3 rfl).trans ((u6 236 3 rfl).trans ((u4 236 3 rfl).trans w2)))))
  have e20 : h12 236 2 = 0 := ((u12 236 2 rfl).trans ((u10 236 2 rfl).trans ((u8 236 2 rfl).trans ((u6 236 2 rfl).trans w4))))
  exact k h12 g12 F15 (show (h12 236 8) = 0 by omega) (show (h12 236 4) ≤ (h12 236 3) by omega) (show (h12 236 2) = 0 by omega)
