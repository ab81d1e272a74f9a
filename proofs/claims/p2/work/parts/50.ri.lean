-- method 215: Model.goOn()V
set_option maxHeartbeats 100000000 in
theorem ct_215_p33_236 {L : Nat} {xs : Nat → Int32} {d b c : Nat} {h : hp} {cr : Nat → Nat → Option Nat} {Q : hp_Q} (hcr : CR cr)  (g : GI h)   (pp0 : h 236 4 ≤ h 236 3) (k : ∀ (h2 : hp) , GI h2 → FR [(236, 236, some (4, 4)), (236, 236, some (5, 5)), (236, 236, some (6, 6)), (236, 236, some (7, 7)), (236, 236, some (12, 12))] h h2 → (h 236 4 ≤ h2 236 4) → (h2 236 4 ≤ h 236 3) → (h2 236 6 = 0 ∨ h 236 4 + 1 ≤ h2 236 4) → Q (.inl none) (hp_w h2 cr) b c) : wp (md_xa (L, xs)) (d + 1) 215 (33, [(0, .ref 236)], [], hp_w h cr, b, c) Q := by
  have F0 : FR [(236, 236, some (4, 4)), (236, 236, some (5, 5)), (236, 236, some (6, 6)), (236, 236, some (7, 7)), (236, 236, some (12, 12))] h h := FR.refl
  have b1 := gi_b (lo := 0) (hi := 800) g 236 4 rfl
  have b2 := gi_b (lo := 0) (hi := 800) g 236 3 rfl
  refine wi_aload_n (i := 0) (x := 236) (nx := 34) (r1 := 0) (r2 := 0) (r3 := 0) rfl rfl ?_
  refine wi_aload_n (i := 0) (x := 236) (nx := 35) (r1 := 0) (r2 := 0) (r3 := 0) rfl rfl ?_
  refine wr_gi0 (k0 := 236) (x := h 236 4) (nx := 38) (r1 := 11) (r2 := 4) (r3 := 0) rfl rfl (by decide) rfl ⟨rfl, rfl⟩ rfl rfl ?_
  refine wr_pf0 (k0 := 236) (x := h 236 4) (bl := 0) (bh := 800) (nx := 41) (r1 := 11) (r2 := 5) (r3 := 0) rfl (by decide) rfl ⟨rfl, rfl⟩ rfl rfl g rfl (by omega) (fun h3 g3 w3 u3 => ?_)
  have F4 := F0.then rfl u3
  refine wi_aload_n (i := 0) (x := 236) (nx := 42) (r1 := 0) (r2 := 0) (r3 := 0) rfl rfl ?_
  refine wi_lconst (n := 0) (e := 0) (nx := 43) (r1 := 0) (r2 := 0) (r3 := 0) rfl (by decide) ?_
  refine wr_pf1 (k0 := 236) (x := 0) (bl := -9223372036854775808) (bh := 9223372036854775807) (nx := 46) (r1 := 11) (r2 := 12) (r3 := 1) rfl (by decide) rfl ⟨rfl, rfl⟩ rfl rfl g3 rfl (by omega) (fun h5 g5 w5 u5 => ?_)
  have F6 := F4.then rfl u5
  refine wi_aload_n (i := 0) (x := 236) (nx := 47) (r1 := 0) (r2 := 0) (r3 := 0) rfl rfl ?_
  refine wi_iconst (n := 0) (nx := 48) (r1 := 0) (r2 := 0) (r3 := 0) rfl ?_
  refine wr_pf0 (k0 := 236) (x := 0) (bl := 0) (bh := 999) (nx := 51) (r1 := 11) (r2 := 7) (r3 := 0) rfl (by decide) rfl ⟨rfl, rfl⟩ rfl rfl g5 rfl (by omega) (fun h7 g7 w7 u7 => ?_)
  have F8 := F6.then rfl u7
  refine wi_aload_n (i := 0) (x := 236) (nx := 52) (r1 := 0) (r2 := 0) (r3 := 0) rfl rfl ?_
  refine wi_iconst (n := 0) (nx := 53) (r1 := 0) (r2 := 0) (r3 := 0) rfl ?_
  refine wr_V (k0 := 236) (rest := []) (as := [.ref 236, vi 0]) (nx := 56) (r1 := 216) (r2 := 1) (r3 := 11) rfl rfl rfl (of_decide_eq_true rfl) rfl rfl (by decide) rfl rfl (of_decide_eq_true rfl) (of_decide_eq_true rfl) ?_
  refine wi_aload_n (i := 0) (x := 236) (nx := 1) (r1 := 0) (r2 := 0) (r3 := 0) rfl rfl ?_
  refine wr_gi0 (k0 := 236) (x := h 236 4) (nx := 4) (r1 := 11) (r2 := 4) (r3 := 0) rfl rfl (by decide) rfl ⟨rfl, rfl⟩ rfl ((u7 236 4 rfl).trans ((u5 236 4 rfl).trans (u3 236 4 rfl))) ?_
  refine wi_iload_n (i := 1) (e := 0) (nx := 5) (r1 := 0) (r2 := 0) (r3 := 0) rfl rfl ?_
  refine wr_add (nx := 6) (r1 := 0) (r2 := 0) (r3 := 0) rfl (fun e9 (fe9 : e9 = (h 236 4) + 0) => ?_)
  refine wi_aload_n (i := 0) (x := 236) (nx := 7) (r1 := 0) (r2 := 0) (r3 := 0) rfl rfl ?_
  refine wr_gi0 (k0 := 236) (x := h 236 3) (nx := 10) (r1 := 11) (r2 := 3) (r3 := 0) rfl rfl (by decide) rfl ⟨rfl, rfl⟩ rfl ((u7 236 3 rfl).trans ((u5 236 3 rfl).trans (u3 236 3 rfl))) ?_
  refine wi_icmp (cd := .ge) (nx := 13) (r1 := 27) (r2 := 0) (r3 := 0) rfl (by omega) (by omega) (fun (q10 : (h 236 3) ≤ e9) => ?_) (fun (q10 : ¬ ((h 236 3) ≤ e9)) => ?_)
  ·
    refine wi_iconst (n := (-1)) (nx := 28) (r1 := 0) (r2 := 0) (r3 := 0) rfl ?_
    refine wi_ireturn (nx := 29) (r1 := 0) (r2 := 0) (r3 := 0) rfl rfl ?_
    refine wk_i ?_
    refine wi_istore_n (i := 1) (e := -1) (lo2 := [(1, vi (-1)), (0, .ref 236)]) (nx := 57) (r1 := 0) (r2 := 0) (r3 := 0) rfl rfl ?_
    refine wi_iconst (n := 0) (nx := 58) (r1 := 0) (r2 := 0) (r3 := 0) rfl ?_
    refine wi_istore_n (i := 2) (e := 0) (lo2 := [(2, vi 0), (1, vi (-1)), (0, .ref 236)]) (nx := 59) (r1 := 0) (r2 := 0) (r3 := 0) rfl rfl ?_
    refine wi_iload_n (i := 1) (e := -1) (nx := 60) (r1 := 0) (r2 := 0) (r3 := 0) rfl rfl ?_
    refine wi_if (cd := .ge) (nx := 63) (r1 := 69) (r2 := 0) (r3 := 0) rfl (by omega) (fun (q11 : 0 ≤ (-1)) => by exfalso; omega) (fun (q11 : ¬ (0 ≤ (-1))) => ?_)
    refine wi_aload_n (i := 0) (x := 236) (nx := 64) (r1 := 0) (r2 := 0) (r3 := 0) rfl rfl ?_
    refine wi_iconst (n := 0) (nx := 65) (r1 := 0) (r2 := 0) (r3 := 0) rfl ?_
    refine wr_pf0 (k0 := 236) (x := 0) (bl := 0) (bh := 4) (nx := 68) (r1 := 11) (r2 := 6) (r3 := 0) rfl (by decide) rfl ⟨rfl, rfl⟩ rfl rfl g7 rfl (by omega) (fun h12 g12 w12 u12 => ?_)
    have F13 := F8.then rfl u12
    refine wi_return (nx := 69) (r1 := 0) (r2 := 0) (r3 := 0) rfl rfl ?_
    have e14 : h12 236 4 = h 236 4 := ((u12 236 4 rfl).trans ((u7 236 4 rfl).trans ((u5 236 4 rfl).trans (u3 236 4 rfl))))
    have e15 : h12 236 6 = 0 := w12
    exact k h12 g12 F13 (show (h 236 4) ≤ (h12 236 4) by omega) (show (h12 236 4) ≤ (h 236 3) by omega) (show (h12 236 6) = 0 ∨ (h 236 4) + 1 ≤ (h12 236 4) by omega)
  ·
    refine wi_aload_n (i := 0) (x := 236) (nx := 14) (r1 := 0) (r2 := 0) (r3 := 0) rfl rfl ?_
    refine wr_gr (k0 := 236) (x := 237) (nx := 17) (r1 := 11) (r2 := 1) (r3 := 0) rfl rfl (by decide) rfl ⟨rfl, rfl⟩ rfl ?_
    refine wi_aload_n (i := 0) (x := 236) (nx := 18) (r1 := 0) (r2 := 0) (r3 := 0) rfl rfl ?_
    refine wr_gi0 (k0 := 236) (x := h 236 4) (nx := 21) (r1 := 11) (r2 := 4) (r3 := 0) rfl rfl (by decide) rfl ⟨rfl, rfl⟩ rfl ((u7 236 4 rfl).trans ((u5 236 4 rfl).trans (u3 236 4 rfl))) ?_
    refine wi_iload_n (i := 1) (e := 0) (nx := 22) (r1 := 0) (r2 := 0) (r3 := 0) rfl rfl ?_
    refine wr_add (nx := 23) (r1 := 0) (r2 := 0) (r3 := 0) rfl (fun e11 (fe11 : e11 = (h 236 4) + 0) => ?_)
    obtain ⟨i12, ei12⟩ : ∃ q : Nat, e11 = (q : Int) := ⟨(e11).toNat, by omega⟩
    have b13 := gi_b (lo := 0) (hi := 255) g 237 i12 rfl
    refine wr_ia (k0 := 237) (a := e11) (f := i12) (x := h 237 i12) (nx := 24) (r1 := 0) (r2 := 0) (r3 := 0) rfl (by decide) rfl (by omega) (by omega) (by decide) ((u7 237 i12 (fn_a (by omega) fn_0)).trans ((u5 237 i12 (fn_a (by omega) fn_0)).trans (u3 237 i12 (fn_a (by omega) fn_0)))) ?_
    refine wi_goto (nx := 27) (r1 := 28) (r2 := 0) (r3 := 0) rfl ?_
    refine wi_ireturn (nx := 29) (r1 := 0) (r2 := 0) (r3 := 0) rfl rfl ?_
    refine wk_i ?_
    refine wi_istore_n (i := 1) (e := h 237 i12) (lo2 := [(1, vi (h 237 i12)), (0, .ref 236)]) (nx := 57) (r1 := 0) (r2 := 0) (r3 := 0) rfl rfl ?_
    refine wi_iconst (n := 0) (nx := 58) (r1 := 0) (r2 := 0) (r3 := 0) rfl ?_
    refine wi_istore_n (i := 2) (e := 0) (lo2 := [(2, vi 0), (1, vi (h 237 i12)), (0, .ref 236)]) (nx := 59) (r1 := 0) (r2 := 0) (r3 := 0) rfl rfl ?_
    refine wi_iload_n (i := 1) (e := h 237 i12) (nx := 60) (r1 := 0) (r2 := 0) (r3 := 0) rfl rfl ?_
    refine wi_if (cd := .ge) (nx := 63) (r1 := 69) (r2 := 0) (r3 := 0) rfl (by omega) (fun (q14 : 0 ≤ (h 237 i12)) => ?_) (fun (q14 : ¬ (0 ≤ (h 237 i12))) => by exfalso; omega)
    refine wi_iload_n (i := 1) (e := h 237 i12) (nx := 70) (r1 := 0) (r2 := 0) (r3 := 0) rfl rfl ?_
    refine wi_S (rest := []) (as := [vi (h 237 i12)]) (nx := 73) (r1 := 217) (r2 := 17) (r3 := 0) rfl rfl rfl (of_decide_eq_true rfl) rfl rfl (of_decide_eq_true rfl) (of_decide_eq_true rfl) ?_
    refine wi_iload_n (i := 0) (e := h 237 i12) (nx := 1) (r1 := 0) (r2 := 0) (r3 := 0) rfl rfl ?_
    refine wi_bipush (n := 97) (nx := 3) (r1 := 0) (r2 := 0) (r3 := 0) rfl (by decide) ?_
    refine wi_icmp (cd := .lt) (nx := 6) (r1 := 16) (r2 := 0) (r3 := 0) rfl (by omega) (by omega) (fun (q15 : (h 237 i12) < 97) => ?_) (fun (q15 : ¬ ((h 237 i12) < 97)) => ?_)
    ·
      refine wi_iconst (n := 0) (nx := 17) (r1 := 0) (r2 := 0) (r3 := 0) rfl ?_
      refine wi_zreturn (nx := 18) (r1 := 0) (r2 := 0) (r3 := 0) rfl rfl (by omega) ?_
      refine wk_i ?_
      refine wi_if (cd := .eq) (nx := 76) (r1 := 139) (r2 := 0) (r3 := 0) rfl (by omega) (fun (q16 : 0 = 0) => ?_) (fun (q16 : ¬ (0 = 0)) => by exfalso; omega)
      refine wi_iload_n (i := 1) (e := h 237 i12) (nx := 140) (r1 := 0) (r2 := 0) (r3 := 0) rfl rfl ?_
      refine wi_S (rest := []) (as := [vi (h 237 i12)]) (nx := 143) (r1 := 218) (r2 := 17) (r3 := 0) rfl rfl rfl (of_decide_eq_true rfl) rfl rfl (of_decide_eq_true rfl) (of_decide_eq_true rfl) ?_
      refine wi_iload_n (i := 0) (e := h 237 i12) (nx := 1) (r1 := 0) (r2 := 0) (r3 := 0) rfl rfl ?_
      refine wi_bipush (n := 48) (nx := 3) (r1 := 0) (r2 := 0) (r3 := 0) rfl (by decide) ?_
      refine wi_icmp (cd := .lt) (nx := 6) (r1 := 16) (r2 := 0) (r3 := 0) rfl (by omega) (by omega) (fun (q17 : (h 237 i12) < 48) => ?_) (fun (q17 : ¬ ((h 237 i12) < 48)) => ?_)
      ·
        refine wi_iconst (n := 0) (nx := 17) (r1 := 0) (r2 := 0) (r3 := 0) rfl ?_
        refine wi_zreturn (nx := 18) (r1 := 0) (r2 := 0) (r3 := 0) rfl rfl (by omega) ?_
        refine wk_i ?_
        refine wi_if (cd := .eq) (nx := 146) (r1 := 205) (r2 := 0) (r3 := 0) rfl (by omega) (fun (q18 : 0 = 0) => ?_) (fun (q18 : ¬ (0 = 0)) => by exfalso; omega)
        refine wi_aload_n (i := 0) (x := 236) (nx := 206) (r1 := 0) (r2 := 0) (r3 := 0) rfl rfl ?_
        refine wi_iload_n (i := 1) (e := h 237 i12) (nx := 207) (r1 := 0) (r2 := 0) (r3 := 0) rfl rfl ?_
        refine wi_bipush (n := 59) (nx := 209) (r1 := 0) (r2 := 0) (r3 := 0) rfl (by decide) ?_
        refine wi_icmp (cd := .eq) (nx := 212) (r1 := 224) (r2 := 0) (r3 := 0) rfl (by omega) (by omega) (fun (q19 : (h 237 i12) = 59) => by exfalso; omega) (fun (q19 : ¬ ((h 237 i12) = 59)) => ?_)
        refine wi_iload_n (i := 1) (e := h 237 i12) (nx := 213) (r1 := 0) (r2 := 0) (r3 := 0) rfl rfl ?_
        refine wi_bipush (n := 40) (nx := 215) (r1 := 0) (r2 := 0) (r3 := 0) rfl (by decide) ?_
        refine wi_icmp (cd := .eq) (nx := 218) (r1 := 224) (r2 := 0) (r3 := 0) rfl (by omega) (by omega) (fun (q20 : (h 237 i12) = 40) => ?_) (fun (q20 : ¬ ((h 237 i12) = 40)) => ?_)
        ·
          refine wi_iconst (n := 3) (nx := 225) (r1 := 0) (r2 := 0) (r3 := 0) rfl ?_
          refine wi_goto (nx := 228) (r1 := 229) (r2 := 0) (r3 := 0) rfl ?_
          refine wr_pf0 (k0 := 236) (x := 3) (bl := 0) (bh := 4) (nx := 232) (r1 := 11) (r2 := 6) (r3 := 0) rfl (by decide) rfl ⟨rfl, rfl⟩ rfl rfl g7 rfl (by omega) (fun h21 g21 w21 u21 => ?_)
          have F22 := F8.then rfl u21
          refine wi_aload_n (i := 0) (x := 236) (nx := 233) (r1 := 0) (r2 := 0) (r3 := 0) rfl rfl ?_
          refine wi_iload_n (i := 1) (e := h 237 i12) (nx := 234) (r1 := 0) (r2 := 0) (r3 := 0) rfl rfl ?_
          refine wr_pf0 (k0 := 236) (x := h 237 i12) (bl := 0) (bh := 999) (nx := 237) (r1 := 11) (r2 := 7) (r3 := 0) rfl (by decide) rfl ⟨rfl, rfl⟩ rfl rfl g21 rfl (by omega) (fun h23 g23 w23 u23 => ?_)
          have F24 := F22.then rfl u23
          refine wi_iconst (n := 1) (nx := 238) (r1 := 0) (r2 := 0) (r3 := 0) rfl ?_
          refine wi_istore_n (i := 2) (e := 1) (lo2 := [(2, vi 1), (1, vi (h 237 i12)), (0, .ref 236)]) (nx := 239) (r1 := 0) (r2 := 0) (r3 := 0) rfl rfl ?_
          refine wi_aload_n (i := 0) (x := 236) (nx := 240) (r1 := 0) (r2 := 0) (r3 := 0) rfl rfl ?_
          refine wi_dup (nx := 241) (r1 := 0) (r2 := 0) (r3 := 0) rfl rfl ?_
          refine wr_gi0 (k0 := 236) (x := h 236 4) (nx := 244) (r1 := 11) (r2 := 4) (r3 := 0) rfl rfl (by decide) rfl ⟨rfl, rfl⟩ rfl ((u23 236 4 rfl).trans ((u21 236 4 rfl).trans ((u7 236 4 rfl).trans ((u5 236 4 rfl).trans (u3 236 4 rfl))))) ?_
          refine wi_iload_n (i := 2) (e := 1) (nx := 245) (r1 := 0) (r2 := 0) (r3 := 0) rfl rfl ?_
          refine wr_add (nx := 246) (r1 := 0) (r2 := 0) (r3 := 0) rfl (fun e25 (fe25 : e25 = (h 236 4) + 1) => ?_)
          refine wr_pf0 (k0 := 236) (x := e25) (bl := 0) (bh := 800) (nx := 249) (r1 := 11) (r2 := 4) (r3 := 0) rfl (by decide) rfl ⟨rfl, rfl⟩ rfl rfl g23 rfl (by omega) (fun h26 g26 w26 u26 => ?_)
          have F27 := F24.then rfl u26
          refine wi_return (nx := 250) (r1 := 0) (r2 := 0) (r3 := 0) rfl rfl ?_
          have e28 : h26 236 4 = e25 := w26
          have e29 : h26 236 6 = 3 := ((u26 236 6 rfl).trans ((u23 236 6 rfl).trans w21))
          exact k h26 g26 F27 (show (h 236 4) ≤ (h26 236 4) by omega) (show (h26 236 4) ≤ (h 236 3) by omega) (show (h26 236 6) = 0 ∨ (h 236 4) + 1 ≤ (h26 236 4) by omega)
        ·
          refine wi_iload_n (i := 1) (e := h 237 i12) (nx := 219) (r1 := 0) (r2 := 0) (r3 := 0) rfl rfl ?_
          refine wi_bipush (n := 41) (nx := 221) (r1 := 0) (r2 := 0) (r3 := 0) rfl (by decide) ?_
          refine wi_icmp (cd := .ne) (nx := 224) (r1 := 228) (r2 := 0) (r3 := 0) rfl (by omega) (by omega) (fun (q21 : (h 237 i12) ≠ 41) => ?_) (fun (q21 : ¬ ((h 237 i12) ≠ 41)) => ?_)
          ·
            refine wi_iconst (n := 4) (nx := 229) (r1 := 0) (r2 := 0) (r3 := 0) rfl ?_
            refine wr_pf0 (k0 := 236) (x := 4) (bl := 0) (bh := 4) (nx := 232) (r1 := 11) (r2 := 6) (r3 := 0) rfl (by decide) rfl ⟨rfl, rfl⟩ rfl rfl g7 rfl (by omega) (fun h22 g22 w22 u22 => ?_)
            have F23 := F8.then rfl u22
            refine wi_aload_n (i := 0) (x := 236) (nx := 233) (r1 := 0) (r2 := 0) (r3 := 0) rfl rfl ?_
            refine wi_iload_n (i := 1) (e := h 237 i12) (nx := 234) (r1 := 0) (r2 := 0) (r3 := 0) rfl rfl ?_
            refine wr_pf0 (k0 := 236) (x := h 237 i12) (bl := 0) (bh := 999) (nx := 237) (r1 := 11) (r2 := 7) (r3 := 0) rfl (by decide) rfl ⟨rfl, rfl⟩ rfl rfl g22 rfl (by omega) (fun h24 g24 w24 u24 => ?_)
            have F25 := F23.then rfl u24
            refine wi_iconst (n := 1) (nx := 238) (r1 := 0) (r2 := 0) (r3 := 0) rfl ?_
            refine wi_istore_n (i := 2) (e := 1) (lo2 := [(2, vi 1), (1, vi (h 237 i12)), (0, .ref 236)]) (nx := 239) (r1 := 0) (r2 := 0) (r3 := 0) rfl rfl ?_
            refine wi_aload_n (i := 0) (x := 236) (nx := 240) (r1 := 0) (r2 := 0) (r3 := 0) rfl rfl ?_
            refine wi_dup (nx := 241) (r1 := 0) (r2 := 0) (r3 := 0) rfl rfl ?_
            refine wr_gi0 (k0 := 236) (x := h 236 4) (nx := 244) (r1 := 11) (r2 := 4) (r3 := 0) rfl rfl (by decide) rfl ⟨rfl, rfl⟩ rfl ((u24 236 4 rfl).trans ((u22 236 4 rfl).trans ((u7 236 4 rfl).trans ((u5 236 4 rfl).trans (u3 236 4 rfl))))) ?_
            refine wi_iload_n (i := 2) (e := 1) (nx := 245) (r1 := 0) (r2 := 0) (r3 := 0) rfl rfl ?_
            refine wr_add (nx := 246) (r1 := 0) (r2 := 0) (r3 := 0) rfl (fun e26 (fe26 : e26 = (h 236 4) + 1) => ?_)
            refine wr_pf0 (k0 := 236) (x := e26) (bl := 0) (bh := 800) (nx := 249) (r1 := 11) (r2 := 4) (r3 := 0) rfl (by decide) rfl ⟨rfl, rfl⟩ rfl rfl g24 rfl (by omega) (fun h27 g27 w27 u27 => ?_)
            have F28 := F25.then rfl u27
            refine wi_return (nx := 250) (r1 := 0) (r2 := 0) (r3 := 0) rfl rfl ?_
            have e29 : h27 236 4 = e26 := w27
            have e30 : h27 236 6 = 4 := ((u27 236 6 rfl).trans ((u24 236 6 rfl).trans w22))
            exact k h27 g27 F28 (show (h 236 4) ≤ (h27 236 4) by omega) (show (h27 236 4) ≤ (h 236 3) by omega) (show (h27 236 6) = 0 ∨ (h 236 4) + 1 ≤ (h27 236 4) by omega)
          ·
            refine wi_iconst (n := 3) (nx := 225) (r1 := 0) (r2 := 0) (r3 := 0) rfl ?_
            refine wi_goto (nx := 228) (r1 := 229) (r2 := 0) (r3 := 0) rfl ?_
            refine wr_pf0 (k0 := 236) (x := 3) (bl := 0) (bh := 4) (nx := 232) (r1 := 11) (r2 := 6) (r3 := 0) rfl (by decide) rfl ⟨rfl, rfl⟩ rfl rfl g7 rfl (by omega) (fun h22 g22 w22 u22 => ?_)
            have F23 := F8.then rfl u22
            refine wi_aload_n (i := 0) (x := 236) (nx := 233) (r1 := 0) (r2 := 0) (r3 := 0) rfl rfl ?_
            refine wi_iload_n (i := 1) (e := h 237 i12) (nx := 234) (r1 := 0) (r2 := 0) (r3 := 0) rfl rfl ?_
            refine wr_pf0 (k0 := 236) (x := h 237 i12) (bl := 0) (bh := 999) (nx := 237) (r1 := 11) (r2 := 7) (r3 := 0) rfl (by decide) rfl ⟨rfl, rfl⟩ rfl rfl g22 rfl (by omega) (fun h24 g24 w24 u24 => ?_)
            have F25 := F23.then rfl u24
            refine wi_iconst (n := 1) (nx := 238) (r1 := 0) (r2 := 0) (r3 := 0) rfl ?_
            refine wi_istore_n (i := 2) (e := 1) (lo2 := [(2, vi 1), (1, vi (h 237 i12)), (0, .ref 236)]) (nx := 239) (r1 := 0) (r2 := 0) (r3 := 0) rfl rfl ?_
            refine wi_aload_n (i := 0) (x := 236) (nx := 240) (r1 := 0) (r2 := 0) (r3 := 0) rfl rfl ?_
            refine wi_dup (nx := 241) (r1 := 0) (r2 := 0) (r3 := 0) rfl rfl ?_
            refine wr_gi0 (k0 := 236) (x := h 236 4) (nx := 244) (r1 := 11) (r2 := 4) (r3 := 0) rfl rfl (by decide) rfl ⟨rfl, rfl⟩ rfl ((u24 236 4 rfl).trans ((u22 236 4 rfl).trans ((u7 236 4 rfl).trans ((u5 236 4 rfl).trans (u3 236 4 rfl))))) ?_
            refine wi_iload_n (i := 2) (e := 1) (nx := 245) (r1 := 0) (r2 := 0) (r3 := 0) rfl rfl ?_
            refine wr_add (nx := 246) (r1 := 0) (r2 := 0) (r3 := 0) rfl (fun e26 (fe26 : e26 = (h 236 4) + 1) => ?_)
            refine wr_pf0 (k0 := 236) (x := e26) (bl := 0) (bh := 800) (nx := 249) (r1 := 11) (r2 := 4) (r3 := 0) rfl (by decide) rfl ⟨rfl, rfl⟩ rfl rfl g24 rfl (by omega) (fun h27 g27 w27 u27 => ?_)
            have F28 := F25.then rfl u27
            refine wi_return (nx := 250) (r1 := 0) (r2 := 0) (r3 := 0) rfl rfl ?_
            have e29 : h27 236 4 = e26 := w27
            have e30 : h27 236 6 = 3 := ((u27 236 6 rfl).trans ((u24 236 6 rfl).trans w22))
            exact k h27 g27 F28 (show (h 236 4) ≤ (h27 236 4) by omega) (show (h27 236 4) ≤ (h 236 3) by omega) (show (h27 236 6) = 0 ∨ (h 236 4) + 1 ≤ (h27 236 4) by omega)
      ·
        refine wi_iload_n (i := 0) (e := h 237 i12) (nx := 7) (r1 := 0) (r2 := 0) (r3 := 0) rfl rfl ?_
        refine wi_bipush (n := 57) (nx := 9) (r1 := 0) (r2 := 0) (r3 := 0) rfl (by decide) ?_
        refine wi_icmp (cd := .gt) (nx := 12) (r1 := 16) (r2 := 0) (r3 := 0) rfl (by omega) (by omega) (fun (q18 : 57 < (h 237 i12)) => ?_) (fun (q18 : ¬ (57 < (h 237 i12))) => ?_)
        ·
          refine wi_iconst (n := 0) (nx := 17) (r1 := 0) (r2 := 0) (r3 := 0) rfl ?_
          refine wi_zreturn (nx := 18) (r1 := 0) (r2 := 0) (r3 := 0) rfl rfl (by omega) ?_
          refine wk_i ?_
          refine wi_if (cd := .eq) (nx := 146) (r1 := 205) (r2 := 0) (r3 := 0) rfl (by omega) (fun (q19 : 0 = 0) => ?_) (fun (q19 : ¬ (0 = 0)) => by exfalso; omega)
          refine wi_aload_n (i := 0) (x := 236) (nx := 206) (r1 := 0) (r2 := 0) (r3 := 0) rfl rfl ?_
          refine wi_iload_n (i := 1) (e := h 237 i12) (nx := 207) (r1 := 0) (r2 := 0) (r3 := 0) rfl rfl ?_
          refine wi_bipush (n := 59) (nx := 209) (r1 := 0) (r2 := 0) (r3 := 0) rfl (by decide) ?_
          refine wi_icmp (cd := .eq) (nx := 212) (r1 := 224) (r2 := 0) (r3 := 0) rfl (by omega) (by omega) (fun (q20 : (h 237 i12) = 59) => ?_) (fun (q20 : ¬ ((h 237 i12) = 59)) => ?_)
          ·
            refine wi_iconst (n := 3) (nx := 225) (r1 := 0) (r2 := 0) (r3 := 0) rfl ?_
            refine wi_goto (nx := 228) (r1 := 229) (r2 := 0) (r3 := 0) rfl ?_
            refine wr_pf0 (k0 := 236) (x := 3) (bl := 0) (bh := 4) (nx := 232) (r1 := 11) (r2 := 6) (r3 := 0) rfl (by decide) rfl ⟨rfl, rfl⟩ rfl rfl g7 rfl (by omega) (fun h21 g21 w21 u21 => ?_)
            have F22 := F8.then rfl u21
            refine wi_aload_n (i := 0) (x := 236) (nx := 233) (r1 := 0) (r2 := 0) (r3 := 0) rfl rfl ?_
            refine wi_iload_n (i := 1) (e := h 237 i12) (nx := 234) (r1 := 0) (r2 := 0) (r3 := 0) rfl rfl ?_
            refine wr_pf0 (k0 := 236) (x := h 237 i12) (bl := 0) (bh := 999) (nx := 237) (r1 := 11) (r2 := 7) (r3 := 0) rfl (by decide) rfl ⟨rfl, rfl⟩ rfl rfl g21 rfl (by omega) (fun h23 g23 w23 u23 => ?_)
            have F24 := F22.then rfl u23
            refine wi_iconst (n := 1) (nx := 238) (r1 := 0) (r2 := 0) (r3 := 0) rfl ?_
            refine wi_istore_n (i := 2) (e := 1) (lo2 := [(2, vi 1), (1, vi (h 237 i12)), (0, .ref 236)]) (nx := 239) (r1 := 0) (r2 := 0) (r3 := 0) rfl rfl ?_
            refine wi_aload_n (i := 0) (x := 236) (nx := 240) (r1 := 0) (r2 := 0) (r3 := 0) rfl rfl ?_
            refine wi_dup (nx := 241) (r1 := 0) (r2 := 0) (r3 := 0) rfl rfl ?_
            refine wr_gi0 (k0 := 236) (x := h 236 4) (nx := 244) (r1 := 11) (r2 := 4) (r3 := 0) rfl rfl (by decide) rfl ⟨rfl, rfl⟩ rfl ((u23 236 4 rfl).trans ((u21 236 4 rfl).trans ((u7 236 4 rfl).trans ((u5 236 4 rfl).trans (u3 236 4 rfl))))) ?_
            refine wi_iload_n (i := 2) (e := 1) (nx := 245) (r1 := 0) (r2 := 0) (r3 := 0) rfl rfl ?_
            refine wr_add (nx := 246) (r1 := 0) (r2 := 0) (r3 := 0) rfl (fun e25 (fe25 : e25 = (h 236 4) + 1) => ?_)
            refine wr_pf0 (k0 := 236) (x := e25) (bl := 0) (bh := 800) (nx := 249) (r1 := 11) (r2 := 4) (r3 := 0) rfl (by decide) rfl ⟨rfl, rfl⟩ rfl rfl g23 rfl (by omega) (fun h26 g26 w26 u26 => ?_)
            have F27 := F24.then rfl u26
            refine wi_return (nx := 250) (r1 := 0) (r2 := 0) (r3 := 0) rfl rfl ?_
            have e28 : h26 236 4 = e25 := w26
            have e29 : h26 236 6 = 3 := ((u26 236 6 rfl).trans ((u23 236 6 rfl).trans w21))
            exact k h26 g26 F27 (show (h 236 4) ≤ (h26 236 4) by omega) (show (h26 236 4) ≤ (h 236 3) by omega) (show (h26 236 6) = 0 ∨ (h 236 4) + 1 ≤ (h26 236 4) by omega)
          ·
            refine wi_iload_n (i := 1) (e := h 237 i12) (nx := 213) (r1 := 0) (r2 := 0) (r3 := 0) rfl rfl ?_
            refine wi_bipush (n := 40) (nx := 215) (r1 := 0) (r2 := 0) (r3 := 0) rfl (by decide) ?_
            refine wi_icmp (cd := .eq) (nx := 218) (r1 := 224) (r2 := 0) (r3 := 0) rfl (by omega) (by omega) (fun (q21 : (h 237 i12) = 40) => by exfalso; omega) (fun (q21 : ¬ ((h 237 i12) = 40)) => ?_)
            refine wi_iload_n (i := 1) (e := h 237 i12) (nx := 219) (r1 := 0) (r2 := 0) (r3 := 0) rfl rfl ?_
            refine wi_bipush (n := 41) (nx := 221) (r1 := 0) (r2 := 0) (r3 := 0) rfl (by decide) ?_
            refine wi_icmp (cd := .ne) (nx := 224) (r1 := 228) (r2 := 0) (r3 := 0) rfl (by omega) (by omega) (fun (q22 : (h 237 i12) ≠ 41) => ?_) (fun (q22 : ¬ ((h 237 i12) ≠ 41)) => by exfalso; omega)
            refine wi_iconst (n := 4) (nx := 229) (r1 := 0) (r2 := 0) (r3 := 0) rfl ?_
            refine wr_pf0 (k0 := 236) (x := 4) (bl := 0) (bh := 4) (nx := 232) (r1 := 11) (r2 := 6) (r3 := 0) rfl (by decide) rfl ⟨rfl, rfl⟩ rfl rfl g7 rfl (by omega) (fun h23 g23 w23 u23 => ?_)
            have F24 := F8.then rfl u23
            refine wi_aload_n (i := 0) (x := 236) (nx := 233) (r1 := 0) (r2 := 0) (r3 := 0) rfl rfl ?_
            refine wi_iload_n (i := 1) (e := h 237 i12) (nx := 234) (r1 := 0) (r2 := 0) (r3 := 0) rfl rfl ?_
            refine wr_pf0 (k0 := 236) (x := h 237 i12) (bl := 0) (bh := 999) (nx := 237) (r1 := 11) (r2 := 7) (r3 := 0) rfl (by decide) rfl ⟨rfl, rfl⟩ rfl rfl g23 rfl (by omega) (fun h25 g25 w25 u25 => ?_)
            have F26 := F24.then rfl u25
            refine wi_iconst (n := 1) (nx := 238) (r1 := 0) (r2 := 0) (r3 := 0) rfl ?_
            refine wi_istore_n (i := 2) (e := 1) (lo2 := [(2, vi 1), (1, vi (h 237 i12)), (0, .ref 236)]) (nx := 239) (r1 := 0) (r2 := 0) (r3 := 0) rfl rfl ?_
            refine wi_aload_n (i := 0) (x := 236) (nx := 240) (r1 := 0) (r2 := 0) (r3 := 0) rfl rfl ?_
            refine wi_dup (nx := 241) (r1 := 0) (r2 := 0) (r3 := 0) rfl rfl ?_
            refine wr_gi0 (k0 := 236) (x := h 236 4) (nx := 244) (r1 := 11) (r2 := 4) (r3 := 0) rfl rfl (by decide) rfl ⟨rfl, rfl⟩ rfl ((u25 236 4 rfl).trans ((u23 236 4 rfl).trans ((u7 236 4 rfl).trans ((u5 236 4 rfl).trans (u3 236 4 rfl))))) ?_
            refine wi_iload_n (i := 2) (e := 1) (nx := 245) (r1 := 0) (r2 := 0) (r3 := 0) rfl rfl ?_
            refine wr_add (nx := 246) (r1 := 0) (r2 := 0) (r3 := 0) rfl (fun e27 (fe27 : e27 = (h 236 4) + 1) => ?_)
            refine wr_pf0 (k0 := 236) (x := e27) (bl := 0) (bh := 800) (nx := 249) (r1 := 11) (r2 := 4) (r3 := 0) rfl (by decide) rfl ⟨rfl, rfl⟩ rfl rfl g25 rfl (by omega) (fun h28 g28 w28 u28 => ?_)
            have F29 := F26.then rfl u28
            refine wi_return (nx := 250) (r1 := 0) (r2 := 0) (r3 := 0) rfl rfl ?_
            have e30 : h28 236 4 = e27 := w28
            have e31 : h28 236 6 = 4 := ((u28 236 6 rfl).trans ((u25 236 6 rfl).trans w23))
            exact k h28 g28 F29 (show (h 236 4) ≤ (h28 236 4) by omega) (show (h28 236 4) ≤ (h 236 3) by omega) (show (h28 236 6) = 0 ∨ (h 236 4) + 1 ≤ (h28 236 4) by omega)
        ·
          refine wi_iconst (n := 1) (nx := 13) (r1 := 0) (r2 := 0) (r3 := 0) rfl ?_
          refine wi_goto (nx := 16) (r1 := 17) (r2 := 0) (r3 := 0) rfl ?_
          refine wi_zreturn (nx := 18) (r1 := 0) (r2 := 0) (r3 := 0) rfl rfl (by omega) ?_
          refine wk_i ?_
          refine wi_if (cd := .eq) (nx := 146) (r1 := 205) (r2 := 0) (r3 := 0) rfl (by omega) (fun (q19 : 1 = 0) => by exfalso; omega) (fun (q19 : ¬ (1 = 0)) => ?_)
          refine wp.lo (lo := [(0, .ref 236), (2, vi 0)]) ⟨rfl, rfl, trivial⟩ rfl ?_
          have e21 : h7 236 4 = h 236 4 := ((u7 236 4 rfl).trans ((u5 236 4 rfl).trans (u3 236 4 rfl)))
          have e22 : h7 236 3 = h 236 3 := ((u7 236 3 rfl).trans ((u5 236 3 rfl).trans (u3 236 3 rfl)))
          have e23 : h7 237 (0 + (h7 236 4).toNat) = h 237 i12 := by rw [show 0 + (h7 236 4).toNat = i12 by omega]; exact ((u7 237 i12 (fn_a (by omega) fn_0)).trans ((u5 237 i12 (fn_a (by omega) fn_0)).trans (u3 237 i12 (fn_a (by omega) fn_0))))
          have e24 : h7 236 7 = 0 := w7
          refine ct_215_p146_236_L2_0 hcr  g7   (show (h7 236 4) + 1 ≤ (h7 236 3) by omega) (show 48 ≤ (h7 237 (0 + (h7 236 4).toNat)) by omega) (show (h7 237 (0 + (h7 236 4).toNat)) ≤ 57 by omega) (show (h7 236 7) = 0 by omega) (fun h20 g20 u20 (p20_0 : (h7 236 4) ≤ (h20 236 4)) (p20_1 : (h20 236 4) ≤ (h7 236 3)) (p20_2 : (h20 236 6) = 0 ∨ (h7 236 4) + 1 ≤ (h20 236 4)) => ?_)
          have F25 := F8.then (by decide +kernel) u20
          have b26 := gi_b (lo := 0) (hi := 800) g20 236 4 rfl
          have b27 := gi_b (lo := 0) (hi := 4) g20 236 6 rfl
          exact k h20 g20 F25 (show (h 236 4) ≤ (h20 236 4) by omega) (show (h20 236 4) ≤ (h 236 3) by omega) (show (h20 236 6) = 0 ∨ (h 236 4) + 1 ≤ (h20 236 4) by omega)
    ·
      refine wi_iload_n (i := 0) (e := h 237 i12) (nx := 7) (r1 := 0) (r2 := 0) (r3 := 0) rfl rfl ?_
      refine wi_bipush (n := 122) (nx := 9) (r1 := 0) (r2 := 0) (r3 := 0) rfl (by decide) ?_
      refine wi_icmp (cd := .gt) (nx := 12) (r1 := 16) (r2 := 0) (r3 := 0) rfl (by omega) (by omega) (fun (q16 : 122 < (h 237 i12)) => ?_) (fun (q16 : ¬ (122 < (h 237 i12))) => ?_)
      ·
        refine wi_iconst (n := 0) (nx := 17) (r1 := 0) (r2 := 0) (r3 := 0) rfl ?_
        refine wi_zreturn (nx := 18) (r1 := 0) (r2 := 0) (r3 := 0) rfl rfl (by omega) ?_
        refine wk_i ?_
        refine wi_if (cd := .eq) (nx := 76) (r1 := 139) (r2 := 0) (r3 := 0) rfl (by omega) (fun (q17 : 0 = 0) => ?_) (fun (q17 : ¬ (0 = 0)) => by exfalso; omega)
        refine wi_iload_n (i := 1) (e := h 237 i12) (nx := 140) (r1 := 0) (r2 := 0) (r3 := 0) rfl rfl ?_
        refine wi_S (rest := []) (as := [vi (h 237 i12)]) (nx := 143) (r1 := 218) (r2 := 17) (r3 := 0) rfl rfl rfl (of_decide_eq_true rfl) rfl rfl (of_decide_eq_true rfl) (of_decide_eq_true rfl) ?_
        refine wi_iload_n (i := 0) (e := h 237 i12) (nx := 1) (r1 := 0) (r2 := 0) (r3 := 0) rfl rfl ?_
        refine wi_bipush (n := 48) (nx := 3) (r1 := 0) (r2 := 0) (r3 := 0) rfl (by decide) ?_
        refine wi_icmp (cd := .lt) (nx := 6) (r1 := 16) (r2 := 0) (r3 := 0) rfl (by omega) (by omega) (fun (q18 : (h 237 i12) < 48) => by exfalso; omega) (fun (q18 : ¬ ((h 237 i12) < 48)) => ?_)
        refine wi_iload_n (i := 0) (e := h 237 i12) (nx := 7) (r1 := 0) (r2 := 0) (r3 := 0) rfl rfl ?_
        refine wi_bipush (n := 57) (nx := 9) (r1 := 0) (r2 := 0) (r3 := 0) rfl (by decide) ?_
        refine wi_icmp (cd := .gt) (nx := 12) (r1 := 16) (r2 := 0) (r3 := 0) rfl (by omega) (by omega) (fun (q19 : 57 < (h 237 i12)) => ?_) (fun (q19 : ¬ (57 < (h 237 i12))) => by exfalso; omega)
        refine wi_iconst (n := 0) (nx := 17) (r1 := 0) (r2 := 0) (r3 := 0) rfl ?_
        refine wi_zreturn (nx := 18) (r1 := 0) (r2 := 0) (r3 := 0) rfl rfl (by omega) ?_
        refine wk_i ?_
        refine wi_if (cd := .eq) (nx := 146) (r1 := 205) (r2 := 0) (r3 := 0) rfl (by omega) (fun (q20 : 0 = 0) => ?_) (fun (q20 : ¬ (0 = 0)) => by exfalso; omega)
        refine wi_aload_n (i := 0) (x := 236) (nx := 206) (r1 := 0) (r2 := 0) (r3 := 0) rfl rfl ?_
        refine wi_iload_n (i := 1) (e := h 237 i12) (nx := 207) (r1 := 0) (r2 := 0) (r3 := 0) rfl rfl ?_
        refine wi_bipush (n := 59) (nx := 209) (r1 := 0) (r2 := 0) (r3 := 0) rfl (by decide) ?_
        refine wi_icmp (cd := .eq) (nx := 212) (r1 := 224) (r2 := 0) (r3 := 0) rfl (by omega) (by omega) (fun (q21 : (h 237 i12) = 59) => by exfalso; omega) (fun (q21 : ¬ ((h 237 i12) = 59)) => ?_)
        refine wi_iload_n (i := 1) (e := h 237 i12) (nx := 213) (r1 := 0) (r2 := 0) (r3 := 0) rfl rfl ?_
        refine wi_bipush (n := 40) (nx := 215) (r1 := 0) (r2 := 0) (r3 := 0) rfl (by decide) ?_
        refine wi_icmp (cd := .eq) (nx := 218) (r1 := 224) (r2 := 0) (r3 := 0) rfl (by omega) (by omega) (fun (q22 : (h 237 i12) = 40) => by exfalso; omega) (fun (q22 : ¬ ((h 237 i12) = 40)) => ?_)
        refine wi_iload_n (i := 1) (e := h 237 i12) (nx := 219) (r1 := 0) (r2 := 0) (r3 := 0) rfl rfl ?_
        refine wi_bipush (n := 41) (nx := 221) (r1 := 0) (r2 := 0) (r3 := 0) rfl (by decide) ?_
        refine wi_icmp (cd := .ne) (nx := 224) (r1 := 228) (r2 := 0) (r3 := 0) rfl (by omega) (by omega) (fun (q23 : (h 237 i12) ≠ 41) => ?_) (fun (q23 : ¬ ((h 237 i12) ≠ 41)) => by exfalso; omega)
        refine wi_iconst (n := 4) (nx := 229) (r1 := 0) (r2 := 0) (r3 := 0) rfl ?_
        refine wr_pf0 (k0 := 236) (x := 4) (bl := 0) (bh := 4) (nx := 232) (r1 := 11) (r2 := 6) (r3 := 0) rfl (by decide) rfl ⟨rfl, rfl⟩ rfl rfl g7 rfl (by omega) (fun h24 g24 w24 u24 => ?_)
        have F25 := F8.then rfl u24
        refine wi_aload_n (i := 0) (x := 236) (nx := 233) (r1 := 0) (r2 := 0) (r3 := 0) rfl rfl ?_
        refine wi_iload_n (i := 1) (e := h 237 i12) (nx := 234) (r1 := 0) (r2 := 0) (r3 := 0) rfl rfl ?_
        refine wr_pf0 (k0 := 236) (x := h 237 i12) (bl := 0) (bh := 999) (nx := 237) (r1 := 11) (r2 := 7) (r3 := 0) rfl (by decide) rfl ⟨rfl, rfl⟩ rfl rfl g24 rfl (by omega) (fun h26 g26 w26 u26 => ?_)
        have F27 := F25.then rfl u26
        refine wi_iconst (n := 1) (nx := 238) (r1 := 0) (r2 := 0) (r3 := 0) rfl ?_
        refine wi_istore_n (i := 2) (e := 1) (lo2 := [(2, vi 1), (1, vi (h 237 i12)), (0, .ref 236)]) (nx := 239) (r1 := 0) (r2 := 0) (r3 := 0) rfl rfl ?_
        refine wi_aload_n (i := 0) (x := 236) (nx := 240) (r1 := 0) (r2 := 0) (r3 := 0) rfl rfl ?_
        refine wi_dup (nx := 241) (r1 := 0) (r2 := 0) (r3 := 0) rfl rfl ?_
        refine wr_gi0 (k0 := 236) (x := h 236 4) (nx := 244) (r1 := 11) (r2 := 4) (r3 := 0) rfl rfl (by decide) rfl ⟨rfl, rfl⟩ rfl ((u26 236 4 rfl).trans ((u24 236 4 rfl).trans ((u7 236 4 rfl).trans ((u5 236 4 rfl).trans (u3 236 4 rfl))))) ?_
        refine wi_iload_n (i := 2) (e := 1) (nx := 245) (r1 := 0) (r2 := 0) (r3 := 0) rfl rfl ?_
        refine wr_add (nx := 246) (r1 := 0) (r2 := 0) (r3 := 0) rfl (fun e28 (fe28 : e28 = (h 236 4) + 1) => ?_)
        refine wr_pf0 (k0 := 236) (x := e28) (bl := 0) (bh := 800) (nx := 249) (r1 := 11) (r2 := 4) (r3 := 0) rfl (by decide) rfl ⟨rfl, rfl⟩ rfl rfl g26 rfl (by omega) (fun h29 g29 w29 u29 => ?_)
        have F30 := F27.then rfl u29
        refine wi_return (nx := 250) (r1 := 0) (r2 := 0) (r3 := 0) rfl rfl ?_
        have e31 : h29 236 4 = e28 := w29
        have e32 : h29 236 6 = 4 := ((u29 236 6 rfl).trans ((u26 236 6 rfl).trans w24))
        exact k h29 g29 F30 (show (h 236 4) ≤ (h29 236 4) by omega) (show (h29 236 4) ≤ (h 236 3) by omega) (show (h29 236 6) = 0 ∨ (h 236 4) + 1 ≤ (h29 236 4) by omega)
      ·
        refine wi_iconst (n := 1) (nx := 13) (r1 := 0) (r2 := 0) (r3 := 0) rfl ?_
        refine wi_goto (nx := 16) (r1 := 17) (r2 := 0) (r3 := 0) rfl ?_
        refine wi_zreturn (nx := 18) (r1 := 0) (r2 := 0) (r3 := 0) rfl rfl (by omega) ?_
        refine wk_i ?_
        refine wi_if (cd := .eq) (nx := 76) (r1 := 139) (r2 := 0) (r3 := 0) rfl (by omega) (fun (q17 : 1 = 0) => by exfalso; omega) (fun (q17 : ¬ (1 = 0)) => ?_)
        refine wp.lo (lo := [(0, .ref 236), (2, vi 0)]) ⟨rfl, rfl, trivial⟩ rfl ?_
        have e19 : h7 236 4 = h 236 4 := ((u7 236 4 rfl).trans ((u5 236 4 rfl).trans (u3 236 4 rfl)))
        have e20 : h7 236 3 = h 236 3 := ((u7 236 3 rfl).trans ((u5 236 3 rfl).trans (u3 236 3 rfl)))
        have e21 : h7 237 (0 + (h7 236 4).toNat) = h 237 i12 := by rw [show 0 + (h7 236 4).toNat = i12 by omega]; exact ((u7 237 i12 (fn_a (by omega) fn_0)).trans ((u5 237 i12 (fn_a (by omega) fn_0)).trans (u3 237 i12 (fn_a (by omega) fn_0))))
        refine ct_215_p76_236_L2_0 hcr  g7   (show (h7 236 4) + 1 ≤ (h7 236 3) by omega) (show 97 ≤ (h7 237 (0 + (h7 236 4).toNat)) by omega) (show (h7 237 (0 + (h7 236 4).toNat)) ≤ 122 by omega) (fun h18 g18 u18 (p18_0 : (h7 236 4) ≤ (h18 236 4)) (p18_1 : (h18 236 4) ≤ (h7 236 3)) (p18_2 : (h18 236 6) = 0 ∨ (h7 236 4) + 1 ≤ (h18 236 4)) => ?_)
        have F22 := F8.then (by decide +kernel) u18
        have b23 := gi_b (lo := 0) (hi := 800) g18 236 4 rfl
        have b24 := gi_b (lo := 0) (hi := 4) g18 236 6 rfl
        exact k h18 g18 F22 (show (h 236 4) ≤ (h18 236 4) by omega) (show (h18 236 4) ≤ (h 236 3) by omega) (show (h18 236 6) = 0 ∨ (h 236 4) + 1 ≤ (h18 236 4) by omega)
-- method 215: Model.goOn()V
set_option maxHeartbeats 100000000 in
theorem ct_215_236 {L : Nat} {xs : Nat → Int32} {d b c : Nat} {h : hp} {cr : Nat → Nat → Option Nat} {Q : hp_Q} (hcr : CR cr)  (g : GI h)   (pp0 : h 236 4 ≤ h 236 3) (k : ∀ (h2 : hp) , GI h2 → FR [(236, 236, some (4, 4)), (236, 236, some (5, 5)), (236, 236, some (6, 6)), (236, 236, some (7, 7)), (236, 236, some (12, 12))] h h2 → (h 236 4 ≤ h2 236 4) → (h2 236 4 ≤ h 236 3) → (h2 236 6 = 0 ∨ h 236 4 + 1 ≤ h2 236 4) → Q (.inl none) (hp_w h2 cr) b c) : wp (md_xa (L, xs)) (d + 1) 215 (0, [(0, .ref 236)], [], hp_w h cr, b, c) Q := by
  have F0 : FR [(236, 236, some (4, 4)), (236, 236, some (5, 5)), (236, 236, some (6, 6)), (236, 236, some (7, 7)), (236, 236, some (12, 12))] h h := FR.refl
  have b1 := gi_b (lo := 0) (hi := 800) g 236 4 rfl
  have b2 := gi_b (lo := 0) (hi := 800) g 236 3 rfl
  refine wl_0 (fun h3 => GI h3 ∧ FR [(236, 236, some (4, 4)), (236, 236, some (5, 5)), (236, 236, some (6, 6)), (236, 236, some (7, 7)), (236, 236, some (12, 12))] h h3 ∧ FR [(236, 236, some (4, 4))] h h3 ∧ (((h3 236 4) ≤ (h3 236 3)) ∧ ((h 236 4) ≤ (h3 236 4)))) (fun h3 => ((h3 236 3) - (h3 236 4)).toNat) (fun h3 => (0, [(0, .ref 236)], [], hp_w h3 cr, b, c)) ?_ h ⟨g, F0, FR.refl, (show ((h 236 4) ≤ (h 236 3)) ∧ ((h 236 4) ≤ (h 236 4)) by omega)⟩
  intro h3 ⟨g3, F4, u3, f3⟩ I3
  have e5 : h3 236 3 = h 236 3 := (u3 236 3 rfl)
  have b6 := gi_b (lo := 0) (hi := 800) g3 236 4 rfl
  refine wi_aload_n (i := 0) (x := 236) (nx := 1) (r1 := 0) (r2 := 0) (r3 := 0) rfl rfl ?_
  refine wi_iconst (n := 0) (nx := 2) (r1 := 0) (r2 := 0) (r3 := 0) rfl ?_
  refine wr_V (k0 := 236) (rest := []) (as := [.ref 236, vi 0]) (nx := 5) (r1 := 216) (r2 := 1) (r3 := 11) rfl rfl rfl (of_decide_eq_true rfl) rfl rfl (by decide) rfl rfl (of_decide_eq_true rfl) (of_decide_eq_true rfl) ?_
  refine wi_aload_n (i := 0) (x := 236) (nx := 1) (r1 := 0) (r2 := 0) (r3 := 0) rfl rfl ?_
  refine wr_gi0 (k0 := 236) (x := h3 236 4) (nx := 4) (r1 := 11) (r2 := 4) (r3 := 0) rfl rfl (by decide) rfl ⟨rfl, rfl⟩ rfl rfl ?_
  refine wi_iload_n (i := 1) (e := 0) (nx := 5) (r1 := 0) (r2 := 0) (r3 := 0) rfl rfl ?_
  refine wr_add (nx := 6) (r1 := 0) (r2 := 0) (r3 := 0) rfl (fun e7 (fe7 : e7 = (h3 236 4) + 0) => ?_)
  refine wi_aload_n (i := 0) (x := 236) (nx := 7) (r1 := 0) (r2 := 0) (r3 := 0) rfl rfl ?_
  refine wr_gi0 (k0 := 236) (x := h 236 3) (nx := 10) (r1 := 11) (r2 := 3) (r3 := 0) rfl rfl (by decide) rfl ⟨rfl, rfl⟩ rfl (u3 236 3 rfl) ?_
  refine wi_icmp (cd := .ge) (nx := 13) (r1 := 27) (r2 := 0) (r3 := 0) rfl (by omega) (by omega) (fun (q8 : (h 236 3) ≤ e7) => ?_) (fun (q8 : ¬ ((h 236 3) ≤ e7)) => ?_)
  ·
    refine wi_iconst (n := (-1)) (nx := 28) (r1 := 0) (r2 := 0) (r3 := 0) rfl ?_
    refine wi_ireturn (nx := 29) (r1 := 0) (r2 := 0) (r3 := 0) rfl rfl ?_
    refine wk_i ?_
    refine wi_bipush (n := 32) (nx := 7) (r1 := 0) (r2 := 0) (r3 := 0) rfl (by decide) ?_
    refine wi_icmp (cd := .eq) (nx := 10) (r1 := 20) (r2 := 0) (r3 := 0) rfl (by omega) (by omega) (fun (q9 : (-1) = 32) => by exfalso; omega) (fun (q9 : ¬ ((-1) = 32)) => ?_)
    refine wi_aload_n (i := 0) (x := 236) (nx := 11) (r1 := 0) (r2 := 0) (r3 := 0) rfl rfl ?_
    refine wi_iconst (n := 0) (nx := 12) (r1 := 0) (r2 := 0) (r3 := 0) rfl ?_
    refine wr_V (k0 := 236) (rest := []) (as := [.ref 236, vi 0]) (nx := 15) (r1 := 216) (r2 := 1) (r3 := 11) rfl rfl rfl (of_decide_eq_true rfl) rfl rfl (by decide) rfl rfl (of_decide_eq_true rfl) (of_decide_eq_true rfl) ?_
    refine wi_aload_n (i := 0) (x := 236) (nx := 1) (r1 := 0) (r2 := 0) (r3 := 0) rfl rfl ?_
    refine wr_gi0 (k0 := 236) (x := h3 236 4) (nx := 4) (r1 := 11) (r2 := 4) (r3 := 0) rfl rfl (by decide) rfl ⟨rfl, rfl⟩ rfl rfl ?_
    refine wi_iload_n (i := 1) (e := 0) (nx := 5) (r1 := 0) (r2 := 0) (r3 := 0) rfl rfl ?_
    refine wr_add (nx := 6) (r1 := 0) (r2 := 0) (r3 := 0) rfl (fun e10 (fe10 : e10 = (h3 236 4) + 0) => ?_)
    refine wi_aload_n (i := 0) (x := 236) (nx := 7) (r1 := 0) (r2 := 0) (r3 := 0) rfl rfl ?_
    refine wr_gi0 (k0 := 236) (x := h 236 3) (nx := 10) (r1 := 11) (r2 := 3) (r3 := 0) rfl rfl (by decide) rfl ⟨rfl, rfl⟩ rfl (u3 236 3 rfl) ?_
    refine wi_icmp (cd := .ge) (nx := 13) (r1 := 27) (r2 := 0) (r3 := 0) rfl (by omega) (by omega) (fun (q11 : (h 236 3) ≤ e10) => ?_) (fun (q11 : ¬ ((h 236 3) ≤ e10)) => by exfalso; omega)
    refine wi_iconst (n := (-1)) (nx := 28) (r1 := 0) (r2 := 0) (r3 := 0) rfl ?_
    refine wi_ireturn (nx := 29) (r1 := 0) (r2 := 0) (r3 := 0) rfl rfl ?_
    refine wk_i ?_
    refine wi_bipush (n := 10) (nx := 17) (r1 := 0) (r2 := 0) (r3 := 0) rfl (by decide) ?_
    refine wi_icmp (cd := .ne) (nx := 20) (r1 := 33) (r2 := 0) (r3 := 0) rfl (by omega) (by omega) (fun (q12 : (-1) ≠ 10) => ?_) (fun (q12 : ¬ ((-1) ≠ 10)) => by exfalso; omega)
    refine ct_215_p33_236 hcr  g3   (show (h3 236 4) ≤ (h3 236 3) by omega) (fun h13 g13 u13 (p13_0 : (h3 236 4) ≤ (h13 236 4)) (p13_1 : (h13 236 4) ≤ (h3 236 3)) (p13_2 : (h13 236 6) = 0 ∨ (h3 236 4) + 1 ≤ (h13 236 4)) => ?_)
    have F14 := F4.then (by decide +kernel) u13
    have b15 := gi_b (lo := 0) (hi := 800) g13 236 4 rfl
    have b16 := gi_b (lo := 0) (hi := 4) g13 236 6 rfl
    exact k h13 g13 F14 (show (h 236 4) ≤ (h13 236 4) by omega) (show (h13 236 4) ≤ (h 236 3) by omega) (show (h13 236 6) = 0 ∨ (h 236 4) + 1 ≤ (h13 236 4) by omega)
  ·
    refine wi_aload_n (i := 0) (x := 236) (nx := 14) (r1 := 0) (r2 := 0) (r3 := 0) rfl rfl ?_
    refine wr_gr (k0 := 236) (x := 237) (nx := 17) (r1 := 11) (r2 := 1) (r3 := 0) rfl rfl (by decide) rfl ⟨rfl, rfl⟩ rfl ?_
    refine wi_aload_n (i := 0) (x := 236) (nx := 18) (r1 := 0) (r2 := 0) (r3 := 0) rfl rfl ?_
    refine wr_gi0 (k0 := 236) (x := h3 236 4) (nx := 21) (r1 := 11) (r2 := 4) (r3 := 0) rfl rfl (by decide) rfl ⟨rfl, rfl⟩ rfl rfl ?_
    refine wi_iload_n (i := 1) (e := 0) (nx := 22) (r1 := 0) (r2 := 0) (r3 := 0) rfl rfl ?_
    refine wr_add (nx := 23) (r1 := 0) (r2 := 0) (r3 := 0) rfl (fun e9 (fe9 : e9 = (h3 236 4) + 0) => ?_)
    obtain ⟨i10, ei10⟩ : ∃ q : Nat, e9 = (q : Int) := ⟨(e9).toNat, by omega⟩
    have b11 := gi_b (lo := 0) (hi := 255) g 237 i10 rfl
    refine wr_ia (k0 := 237) (a := e9) (f := i10) (x := h 237 i10) (nx := 24) (r1 := 0) (r2 := 0) (r3 := 0) rfl (by decide) rfl (by omega) (by omega) (by decide) (u3 237 i10 (fn_a (by omega) fn_0)) ?_
    refine wi_goto (nx := 27) (r1 := 28) (r2 := 0) (r3 := 0) rfl ?_
    refine wi_ireturn (nx := 29) (r1 := 0) (r2 := 0) (r3 := 0) rfl rfl ?_
    refine wk_i ?_
    refine wi_bipush (n := 32) (nx := 7) (r1 := 0) (r2 := 0) (r3 := 0) rfl (by decide) ?_
    refine wi_icmp (cd := .eq) (nx := 10) (r1 := 20) (r2 := 0) (r3 := 0) rfl (by omega) (by omega) (fun (q12 : (h 237 i10) = 32) => ?_) (fun (q12 : ¬ ((h 237 i10) = 32)) => ?_)
    ·
      refine wi_aload_n (i := 0) (x := 236) (nx := 21) (r1 := 0) (r2 := 0) (r3 := 0) rfl rfl ?_
      refine wi_dup (nx := 22) (r1 := 0) (r2 := 0) (r3 := 0) rfl rfl ?_
      refine wr_gi0 (k0 := 236) (x := h3 236 4) (nx := 25) (r1 := 11) (r2 := 4) (r3 := 0) rfl rfl (by decide) rfl ⟨rfl, rfl⟩ rfl rfl ?_
      refine wi_iconst (n := 1) (nx := 26) (r1 := 0) (r2 := 0) (r3 := 0) rfl ?_
      refine wr_add (nx := 27) (r1 := 0) (r2 := 0) (r3 := 0) rfl (fun e13 (fe13 : e13 = (h3 236 4) + 1) => ?_)
      refine wr_pf0 (k0 := 236) (x := e13) (bl := 0) (bh := 800) (nx := 30) (r1 := 11) (r2 := 4) (r3 := 0) rfl (by decide) rfl ⟨rfl, rfl⟩ rfl rfl g3 rfl (by omega) (fun h14 g14 w14 u14 => ?_)
      have F15 := F4.then rfl u14
      have F16 := u3.then rfl u14
      refine wi_goto (nx := 33) (r1 := 0) (r2 := 0) (r3 := 0) rfl ?_
      have e17 : h14 236 4 = e13 := w14
      have e18 : h14 236 3 = h 236 3 := ((u14 236 3 rfl).trans (u3 236 3 rfl))
      exact I3 h14 ⟨g14, F15, F16, (show ((h14 236 4) ≤ (h14 236 3)) ∧ ((h 236 4) ≤ (h14 236 4)) by omega)⟩ (show ((h14 236 3) - (h14 236 4)).toNat < ((h3 236 3) - (h3 236 4)).toNat by omega)
    ·
      refine wi_aload_n (i := 0) (x := 236) (nx := 11) (r1 := 0) (r2 := 0) (r3 := 0) rfl rfl ?_
      refine wi_iconst (n := 0) (nx := 12) (r1 := 0) (r2 := 0) (r3 := 0) rfl ?_
      refine wr_V (k0 := 236) (rest := []) (as := [.ref 236, vi 0]) (nx := 15) (r1 := 216) (r2 := 1) (r3 := 11) rfl rfl rfl (of_decide_eq_true rfl) rfl rfl (by decide) rfl rfl (of_decide_eq_true rfl) (of_decide_eq_true rfl) ?_
      refine wi_aload_n (i := 0) (x := 236) (nx := 1) (r1 := 0) (r2 := 0) (r3 := 0) rfl rfl ?_
      refine wr_gi0 (k0 := 236) (x := h3 236 4) (nx := 4) (r1 := 11) (r2 := 4) (r3 := 0) rfl rfl (by decide) rfl ⟨rfl, rfl⟩ rfl rfl ?_
      refine wi_iload_n (i := 1) (e := 0) (nx := 5) (r1 := 0) (r2 := 0) (r3 := 0) rfl rfl ?_
      refine wr_add (nx := 6) (r1 := 0) (r2 := 0) (r3 := 0) rfl (fun e13 (fe13 : e13 = (h3 236 4) + 0) => ?_)
      refine wi_aload_n (i := 0) (x := 236) (nx := 7) (r1 := 0) (r2 := 0) (r3 := 0) rfl rfl ?_
      refine wr_gi0 (k0 := 236) (x := h 236 3) (nx := 10) (r1 := 11) (r2 := 3) (r3 := 0) rfl rfl (by decide) rfl ⟨rfl, rfl⟩ rfl (u3 236 3 rfl) ?_
      refine wi_icmp (cd := .ge) (nx := 13) (r1 := 27) (r2 := 0) (r3 := 0) rfl (by omega) (by omega) (fun (q14 : (h 236 3) ≤ e13) => by exfalso; omega) (fun (q14 : ¬ ((h 236 3) ≤ e13)) => ?_)
      refine wi_aload_n (i := 0) (x := 236) (nx := 14) (r1 := 0) (r2 := 0) (r3 := 0) rfl rfl ?_
      refine wr_gr (k0 := 236) (x := 237) (nx := 17) (r1 := 11) (r2 := 1) (r3 := 0) rfl rfl (by decide) rfl ⟨rfl, rfl⟩ rfl ?_
      refine wi_aload_n (i := 0) (x := 236) (nx := 18) (r1 := 0) (r2 := 0) (r3 := 0) rfl rfl ?_
      refine wr_gi0 (k0 := 236) (x := h3 236 4) (nx := 21) (r1 := 11) (r2 := 4) (r3 := 0) rfl rfl (by decide) rfl ⟨rfl, rfl⟩ rfl rfl ?_
      refine wi_iload_n (i := 1) (e := 0) (nx := 22) (r1 := 0) (r2 := 0) (r3 := 0) rfl rfl ?_
      refine wr_add (nx := 23) (r1 := 0) (r2 := 0) (r3 := 0) rfl (fun e15 (fe15 : e15 = (h3 236 4) + 0) => ?_)
      refine wr_ia (k0 := 237) (a := e15) (f := i10) (x := h 237 i10) (nx := 24) (r1 := 0) (r2 := 0) (r3 := 0) rfl (by decide) rfl (by omega) (by omega) (by decide) (u3 237 i10 (fn_a (by omega) fn_0)) ?_
      refine wi_goto (nx := 27) (r1 := 28) (r2 := 0) (r3 := 0) rfl ?_
      refine wi_ireturn (nx := 29) (r1 := 0) (r2 := 0) (r3 := 0) rfl rfl ?_
      refine wk_i ?_
      refine wi_bipush (n := 10) (nx := 17) (r1 := 0) (r2 := 0) (r3 := 0) rfl (by decide) ?_
      refine wi_icmp (cd := .ne) (nx := 20) (r1 := 33) (r2 := 0) (r3 := 0) rfl (by omega) (by omega) (fun (q16 : (h 237 i10) ≠ 10) => ?_) (fun (q16 : ¬ ((h 237 i10) ≠ 10)) => ?_)
      ·
        refine ct_215_p33_236 hcr  g3   (show (h3 236 4) ≤ (h3 236 3) by omega) (fun h17 g17 u17 (p17_0 : (h3 236 4) ≤ (h17 236 4)) (p17_1 : (h17 236 4) ≤ (h3 236 3)) (p17_2 : (h17 236 6) = 0 ∨ (h3 236 4) + 1 ≤ (h17 236 4)) => ?_)
        have F18 := F4.then (by decide +kernel) u17
        have b19 := gi_b (lo := 0) (hi := 800) g17 236 4 rfl
        have b20 := gi_b (lo := 0) (hi := 4) g17 236 6 rfl
        exact k h17 g17 F18 (show (h 236 4) ≤ (h17 236 4) by omega) (show (h17 236 4) ≤ (h 236 3) by omega) (show (h17 236 6) = 0 ∨ (h 236 4) + 1 ≤ (h17 236 4) by omega)
      ·
        refine wi_aload_n (i := 0) (x := 236) (nx := 21) (r1 := 0) (r2 := 0) (r3 := 0) rfl rfl ?_
        refine wi_dup (nx := 22) (r1 := 0) (r2 := 0) (r3 := 0) rfl rfl ?_
        refine wr_gi0 (k0 := 236) (x := h3 236 4) (nx := 25) (r1 := 11) (r2 := 4) (r3 := 0) rfl rfl (by decide) rfl ⟨rfl, rfl⟩ rfl rfl ?_
        refine wi_iconst (n := 1) (nx := 26) (r1 := 0) (r2 := 0) (r3 := 0) rfl ?_
        refine wr_add (nx := 27) (r1 := 0) (r2 := 0) (r3 := 0) rfl (fun e17 (fe17 : e17 = (h3 236 4) + 1) => ?_)
        refine wr_pf0 (k0 := 236) (x := e17) (bl := 0) (bh := 800) (nx := 30) (r1 := 11) (r2 := 4) (r3 := 0) rfl (by decide) rfl ⟨rfl, rfl⟩ rfl rfl g3 rfl (by omega) (fun h18 g18 w18 u18 => ?_)
        have F19 := F4.then rfl u18
        have F20 := u3.then rfl u18
        refine wi_goto (nx := 33) (r1 := 0) (r2 := 0) (r3 := 0) rfl ?_
        have e21 : h18 236 4 = e17 := w18
        have e22 : h18 236 3 = h 236 3 := ((u18 236 3 rfl).trans (u3 236 3 rfl))
        exact I3 h18 ⟨g18, F19, F20, (show ((h18 236 4) ≤ (h18 236 3)) ∧ ((h 236 4) ≤ (h18 236 4)) by omega)⟩ (show ((h18 236 3) - (h18 236 4)).toNat < ((h3 236 3) - (h3 236 4)).toNat by omega)
-- method 214: Model.beginsText()V
set_option maxHeartbeats 100000000 in
theorem ct_214_236 {L : Nat} {xs : Nat → Int32} {d b c : Nat} {h : hp} {cr : Nat → Nat → Option Nat} {Q : hp_Q} (hcr : CR cr)  (g : GI h)    (k : ∀ (h2 : hp) , GI h2 → FR [(236, 236, some (2, 2)), (236, 236, some (3, 3)), (236, 236, some (4, 4)), (236, 236, some (5, 5)), (236, 236, some (6, 6)), (236, 236, some (7, 7)), (236, 236, some (8, 8)), (236, 236, some (9, 9)), (236, 236, some (12, 12))] h h2 → (h2 236 8 = 0) → (h2 236 4 ≤ h2 236 3) → (h2 236 2 = 0) → Q (.inl none) (hp_w h2 cr) b c) : wp (md_xa (L, xs)) (d + 2) 214 (0, [(0, .ref 236)], [], hp_w h cr, b, c) Q := by
  have F0 : FR [(236, 236, some (2, 2)), (236, 236, some (3, 3)), (236, 236, some (4, 4)), (236, 236, some (5, 5)), (236, 236, some (6, 6)), (236, 236, some (7, 7)), (236, 236, some (8, 8)), (236, 236, some (9, 9)), (236, 236, some (12, 12))] h h := FR.refl
  refine wi_aload_n (i := 0) (x := 236) (nx := 1) (r1 := 0) (r2 := 0) (r3 := 0) rfl rfl ?_
  refine wi_aload_n (i := 0) (x := 236) (nx := 2) (r1 := 0) (r2 := 0) (r3 := 0) rfl rfl ?_
  have b1 := gi_b (lo := 0) (hi := 800) g 236 2 rfl
  refine wr_gi0 (k0 := 236) (x := h 236 2) (nx := 5) (r1 := 11) (r2 := 2) (r3 := 0) rfl rfl (by decide) rfl ⟨rfl, rfl⟩ rfl rfl ?_
  refine wr_pf0 (k0 := 236) (x := h 236 2) (bl := 0) (bh := 800) (nx := 8) (r1 := 11) (r2 := 3) (r3 := 0) rfl (by decide) rfl ⟨rfl, rfl⟩ rfl rfl g rfl (by omega) (fun h2 g2 w2 u2 => ?_)
  have F3 := F0.then rfl u2
  refine wi_aload_n (i := 0) (x := 236) (nx := 9) (r1 := 0) (r2 := 0) (r3 := 0) rfl rfl ?_
  refine wi_iconst (n := 0) (nx := 10) (r1 := 0) (r2 := 0) (r3 := 0) rfl ?_
  refine wr_pf0 (k0 := 236) (x := 0) (bl := 0) (bh := 800) (nx := 13) (r1 := 11) (r2 := 2) (r3 := 0) rfl (by decide) rfl ⟨rfl, rfl⟩ rfl rfl g2 rfl (by omega) (fun h4 g4 w4 u4 => ?_)
  have F5 := F3.then rfl u4
  refine wi_aload_n (i := 0) (x := 236) (nx := 14) (r1 := 0) (r2 := 0) (r3 := 0) rfl rfl ?_
  refine wi_iconst (n := 0) (nx := 15) (r1 := 0) (r2 := 0) (r3 := 0) rfl ?_
  refine wr_pf0 (k0 := 236) (x := 0) (bl := 0) (bh := 800) (nx := 18) (r1 := 11) (r2 := 4) (r3 := 0) rfl (by decide) rfl ⟨rfl, rfl⟩ rfl rfl g4 rfl (by omega) (fun h6 g6 w6 u6 => ?_)
  have F7 := F5.then rfl u6
  refine wi_aload_n (i := 0) (x := 236) (nx := 19) (r1 := 0) (r2 := 0) (r3 := 0) rfl rfl ?_
  refine wi_iconst (n := 0) (nx := 20) (r1 := 0) (r2 := 0) (r3 := 0) rfl ?_
  refine wr_pf0 (k0 := 236) (x := 0) (bl := 0) (bh := 5) (nx := 23) (r1 := 11) (r2 := 8) (r3 := 0) rfl (by decide) rfl ⟨rfl, rfl⟩ rfl rfl g6 rfl (by omega) (fun h8 g8 w8 u8 => ?_)
  have F9 := F7.then rfl u8
  refine wi_aload_n (i := 0) (x := 236) (nx := 24) (r1 := 0) (r2 := 0) (r3 := 0) rfl rfl ?_
  refine wi_iconst (n := (-1)) (nx := 25) (r1 := 0) (r2 := 0) (r3 := 0) rfl ?_
  refine wr_pf0 (k0 := 236) (x := -1) (bl := -2147483648) (bh := 2147483647) (nx := 28) (r1 := 11) (r2 := 9) (r3 := 0) rfl (by decide) rfl ⟨rfl, rfl⟩ rfl rfl g8 rfl (by omega) (fun h10 g10 w10 u10 => ?_)
  have F11 := F9.then rfl u10
  refine wi_aload_n (i := 0) (x := 236) (nx := 29) (r1 := 0) (r2 := 0) (r3 := 0) rfl rfl ?_
  refine wr_V (k0 := 236) (rest := []) (as := [.ref 236]) (nx := 32) (r1 := 215) (r2 := 0) (r3 := 11) rfl rfl rfl (of_decide_eq_true rfl) rfl rfl (by decide) rfl rfl (of_decide_eq_true rfl) (of_decide_eq_true rfl) ?_
  have e13 : h10 236 4 = 0 := ((u10 236 4 rfl).trans ((u8 236 4 rfl).trans w6))
  have e14 : h10 236 3 = h 236 2 := ((u10 236 3 rfl).trans ((u8 236 3 rfl).trans ((u6 236 3 rfl).trans ((u4 236 3 rfl).trans w2))))
  refine ct_215_236 hcr  g10   (show (h10 236 4) ≤ (h10 236 3) by omega) (fun h12 g12 u12 (p12_0 : (h10 236 4) ≤ (h12 236 4)) (p12_1 : (h12 236 4) ≤ (h10 236 3)) (p12_2 : (h12 236 6) = 0 ∨ (h10 236 4) + 1 ≤ (h12 236 4)) => ?_)
  have F15 := F11.then (by decide +kernel) u12
  have b16 := gi_b (lo := 0) (hi := 800) g12 236 4 rfl
  have b17 := gi_b (lo := 0) (hi := 4) g12 236 6 rfl
  refine wk_n ?_
  refine wi_return (nx := 33) (r1 := 0) (r2 := 0) (r3 := 0) rfl rfl ?_
  have e18 : h12 236 8 = 0 := ((u12 236 8 rfl).trans ((u10 236 8 rfl).trans w8))
  have e19 : h12 236 3 = h 236 2 := ((u12 236 3 rfl).trans ((u10 236 3 rfl).trans ((u8 236 3 rfl).trans ((u6 236 3 rfl).trans ((u4 236 3 rfl).trans w2)))))
  have e20 : h12 236 2 = 0 := ((u12 236 2 rfl).trans ((u10 236 2 rfl).trans ((u8 236 2 rfl).trans ((u6 236 2 rfl).trans w4))))
  exact k h12 g12 F15 (show (h12 236 8) = 0 by omega) (show (h12 236 4) ≤ (h12 236 3) by omega) (show (h12 236 2) = 0 by omega)
