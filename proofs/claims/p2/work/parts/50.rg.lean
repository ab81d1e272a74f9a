-- method 226: Model.isName()Z
set_option maxHeartbeats 100000000 in
theorem ct_226_236 {L : Nat} {xs : Nat → Int32} {d b c : Nat} {h : hp} {cr : Nat → Nat → Option Nat} {Q : hp_Q} (hcr : CR cr)  (g : GI h)    (k : ∀ (z0 : Int), (0 ≤ z0 ∧ z0 ≤ 1) → Q (.inl (some (vi z0))) (hp_w h cr) b c) : wp (md_xa (L, xs)) d 226 (0, [(0, .ref 236)], [], hp_w h cr, b, c) Q := by
  have F0 : FR [] h h := FR.refl
  refine wi_aload_n (i := 0) (x := 236) (nx := 1) (r1 := 0) (r2 := 0) (r3 := 0) rfl rfl ?_
  have b1 := gi_b (lo := -9223372036854775808) (hi := 9223372036854775807) g 236 12 rfl
  refine wr_gi1 (k0 := 236) (x := h 236 12) (nx := 4) (r1 := 11) (r2 := 12) (r3 := 0) rfl rfl (by decide) rfl ⟨rfl, rfl⟩ rfl rfl ?_
  refine wi_ldc2_w (e := 3650034) (nx := 7) (r1 := 3650034) (r2 := 0) (r3 := 0) rfl (by decide) ?_
  refine wi_lcmp (a := h 236 12) (e := 3650034) (nx := 8) (r1 := 0) (r2 := 0) (r3 := 0) rfl (by omega) (by omega) (fun r2 (fr2 : (r2 = -1 ∧ (h 236 12) < 3650034) ∨ (r2 = 0 ∧ (h 236 12) = 3650034) ∨ (r2 = 1 ∧ 3650034 < (h 236 12))) => ?_)
  refine wi_if (cd := .eq) (nx := 11) (r1 := 110) (r2 := 0) (r3 := 0) rfl (by omega) (fun (q3 : r2 = 0) => ?_) (fun (q3 : ¬ (r2 = 0)) => ?_)
  ·
    refine wi_iconst (n := 1) (nx := 111) (r1 := 0) (r2 := 0) (r3 := 0) rfl ?_
    refine wi_goto (nx := 114) (r1 := 115) (r2 := 0) (r3 := 0) rfl ?_
    refine wi_istore_n (i := 1) (e := 1) (lo2 := [(1, vi 1), (0, .ref 236)]) (nx := 116) (r1 := 0) (r2 := 0) (r3 := 0) rfl rfl ?_
    refine wi_iload_n (i := 1) (e := 1) (nx := 117) (r1 := 0) (r2 := 0) (r3 := 0) rfl rfl ?_
    refine wi_if (cd := .ne) (nx := 120) (r1 := 230) (r2 := 0) (r3 := 0) rfl (by omega) (fun (q4 : 1 ≠ 0) => ?_) (fun (q4 : ¬ (1 ≠ 0)) => by exfalso; omega)
    refine wi_iconst (n := 1) (nx := 231) (r1 := 0) (r2 := 0) (r3 := 0) rfl ?_
    refine wi_goto (nx := 234) (r1 := 235) (r2 := 0) (r3 := 0) rfl ?_
    refine wi_istore_n (i := 1) (e := 1) (lo2 := [(1, vi 1), (0, .ref 236)]) (nx := 236) (r1 := 0) (r2 := 0) (r3 := 0) rfl rfl ?_
    refine wi_aload_n (i := 0) (x := 236) (nx := 237) (r1 := 0) (r2 := 0) (r3 := 0) rfl rfl ?_
    have b5 := gi_b (lo := 0) (hi := 4) g 236 6 rfl
    refine wr_gi0 (k0 := 236) (x := h 236 6) (nx := 240) (r1 := 11) (r2 := 6) (r3 := 0) rfl rfl (by decide) rfl ⟨rfl, rfl⟩ rfl rfl ?_
    refine wi_iconst (n := 1) (nx := 241) (r1 := 0) (r2 := 0) (r3 := 0) rfl ?_
    refine wi_icmp (cd := .ne) (nx := 244) (r1 := 252) (r2 := 0) (r3 := 0) rfl (by omega) (by omega) (fun (q6 : (h 236 6) ≠ 1) => ?_) (fun (q6 : ¬ ((h 236 6) ≠ 1)) => ?_)
    ·
      refine wi_iconst (n := 0) (nx := 253) (r1 := 0) (r2 := 0) (r3 := 0) rfl ?_
      refine wi_zreturn (nx := 254) (r1 := 0) (r2 := 0) (r3 := 0) rfl rfl (by omega) ?_
      exact k 0 (by omega)
    ·
      refine wi_iload_n (i := 1) (e := 1) (nx := 245) (r1 := 0) (r2 := 0) (r3 := 0) rfl rfl ?_
      refine wi_if (cd := .ne) (nx := 248) (r1 := 252) (r2 := 0) (r3 := 0) rfl (by omega) (fun (q7 : 1 ≠ 0) => ?_) (fun (q7 : ¬ (1 ≠ 0)) => by exfalso; omega)
      refine wi_iconst (n := 0) (nx := 253) (r1 := 0) (r2 := 0) (r3 := 0) rfl ?_
      refine wi_zreturn (nx := 254) (r1 := 0) (r2 := 0) (r3 := 0) rfl rfl (by omega) ?_
      exact k 0 (by omega)
  ·
    refine wi_aload_n (i := 0) (x := 236) (nx := 12) (r1 := 0) (r2 := 0) (r3 := 0) rfl rfl ?_
    refine wr_gi1 (k0 := 236) (x := h 236 12) (nx := 15) (r1 := 11) (r2 := 12) (r3 := 0) rfl rfl (by decide) rfl ⟨rfl, rfl⟩ rfl rfl ?_
    refine wi_ldc2_w (e := 109099237) (nx := 18) (r1 := 109099237) (r2 := 0) (r3 := 0) rfl (by decide) ?_
    refine wi_lcmp (a := h 236 12) (e := 109099237) (nx := 19) (r1 := 0) (r2 := 0) (r3 := 0) rfl (by omega) (by omega) (fun r4 (fr4 : (r4 = -1 ∧ (h 236 12) < 109099237) ∨ (r4 = 0 ∧ (h 236 12) = 109099237) ∨ (r4 = 1 ∧ 109099237 < (h 236 12))) => ?_)
    refine wi_if (cd := .eq) (nx := 22) (r1 := 110) (r2 := 0) (r3 := 0) rfl (by omega) (fun (q5 : r4 = 0) => ?_) (fun (q5 : ¬ (r4 = 0)) => ?_)
    ·
      refine wi_iconst (n := 1) (nx := 111) (r1 := 0) (r2 := 0) (r3 := 0) rfl ?_
      refine wi_goto (nx := 114) (r1 := 115) (r2 := 0) (r3 := 0) rfl ?_
      refine wi_istore_n (i := 1) (e := 1) (lo2 := [(1, vi 1), (0, .ref 236)]) (nx := 116) (r1 := 0) (r2 := 0) (r3 := 0) rfl rfl ?_
      refine wi_iload_n (i := 1) (e := 1) (nx := 117) (r1 := 0) (r2 := 0) (r3 := 0) rfl rfl ?_
      refine wi_if (cd := .ne) (nx := 120) (r1 := 230) (r2 := 0) (r3 := 0) rfl (by omega) (fun (q6 : 1 ≠ 0) => ?_) (fun (q6 : ¬ (1 ≠ 0)) => by exfalso; omega)
      refine wi_iconst (n := 1) (nx := 231) (r1 := 0) (r2 := 0) (r3 := 0) rfl ?_
      refine wi_goto (nx := 234) (r1 := 235) (r2 := 0) (r3 := 0) rfl ?_
      refine wi_istore_n (i := 1) (e := 1) (lo2 := [(1, vi 1), (0, .ref 236)]) (nx := 236) (r1 := 0) (r2 := 0) (r3 := 0) rfl rfl ?_
      refine wi_aload_n (i := 0) (x := 236) (nx := 237) (r1 := 0) (r2 := 0) (r3 := 0) rfl rfl ?_
      have b7 := gi_b (lo := 0) (hi := 4) g 236 6 rfl
      refine wr_gi0 (k0 := 236) (x := h 236 6) (nx := 240) (r1 := 11) (r2 := 6) (r3 := 0) rfl rfl (by decide) rfl ⟨rfl, rfl⟩ rfl rfl ?_
      refine wi_iconst (n := 1) (nx := 241) (r1 := 0) (r2 := 0) (r3 := 0) rfl ?_
      refine wi_icmp (cd := .ne) (nx := 244) (r1 := 252) (r2 := 0) (r3 := 0) rfl (by omega) (by omega) (fun (q8 : (h 236 6) ≠ 1) => ?_) (fun (q8 : ¬ ((h 236 6) ≠ 1)) => ?_)
      ·
        refine wi_iconst (n := 0) (nx := 253) (r1 := 0) (r2 := 0) (r3 := 0) rfl ?_
        refine wi_zreturn (nx := 254) (r1 := 0) (r2 := 0) (r3 := 0) rfl rfl (by omega) ?_
        exact k 0 (by omega)
      ·
        refine wi_iload_n (i := 1) (e := 1) (nx := 245) (r1 := 0) (r2 := 0) (r3 := 0) rfl rfl ?_
        refine wi_if (cd := .ne) (nx := 248) (r1 := 252) (r2 := 0) (r3 := 0) rfl (by omega) (fun (q9 : 1 ≠ 0) => ?_) (fun (q9 : ¬ (1 ≠ 0)) => by exfalso; omega)
        refine wi_iconst (n := 0) (nx := 253) (r1 := 0) (r2 := 0) (r3 := 0) rfl ?_
        refine wi_zreturn (nx := 254) (r1 := 0) (r2 := 0) (r3 := 0) rfl rfl (by omega) ?_
        exact k 0 (by omega)
    ·
      refine wi_aload_n (i := 0) (x := 236) (nx := 23) (r1 := 0) (r2 := 0) (r3 := 0) rfl rfl ?_
      refine wr_gi1 (k0 := 236) (x := h 236 12) (nx := 26) (r1 := 11) (r2 := 12) (r3 := 0) rfl rfl (by decide) rfl ⟨rfl, rfl⟩ rfl rfl ?_
      refine wi_ldc2_w (e := 394693) (nx := 29) (r1 := 394693) (r2 := 0) (r3 := 0) rfl (by decide) ?_
      refine wi_lcmp (a := h 236 12) (e := 394693) (nx := 30) (r1 := 0) (r2 := 0) (r3 := 0) rfl (by omega) (by omega) (fun r6 (fr6 : (r6 = -1 ∧ (h 236 12) < 394693) ∨ (r6 = 0 ∧ (h 236 12) = 394693) ∨ (r6 = 1 ∧ 394693 < (h 236 12))) => ?_)
      refine wi_if (cd := .eq) (nx := 33) (r1 := 110) (r2 := 0) (r3 := 0) rfl (by omega) (fun (q7 : r6 = 0) => ?_) (fun (q7 : ¬ (r6 = 0)) => ?_)
      ·
        refine wi_iconst (n := 1) (nx := 111) (r1 := 0) (r2 := 0) (r3 := 0) rfl ?_
        refine wi_goto (nx := 114) (r1 := 115) (r2 := 0) (r3 := 0) rfl ?_
        refine wi_istore_n (i := 1) (e := 1) (lo2 := [(1, vi 1), (0, .ref 236)]) (nx := 116) (r1 := 0) (r2 := 0) (r3 := 0) rfl rfl ?_
        refine wi_iload_n (i := 1) (e := 1) (nx := 117) (r1 := 0) (r2 := 0) (r3 := 0) rfl rfl ?_
        refine wi_if (cd := .ne) (nx := 120) (r1 := 230) (r2 := 0) (r3 := 0) rfl (by omega) (fun (q8 : 1 ≠ 0) => ?_) (fun (q8 : ¬ (1 ≠ 0)) => by exfalso; omega)
        refine wi_iconst (n := 1) (nx := 231) (r1 := 0) (r2 := 0) (r3 := 0) rfl ?_
        refine wi_goto (nx := 234) (r1 := 235) (r2 := 0) (r3 := 0) rfl ?_
        refine wi_istore_n (i := 1) (e := 1) (lo2 := [(1, vi 1), (0, .ref 236)]) (nx := 236) (r1 := 0) (r2 := 0) (r3 := 0) rfl rfl ?_
        refine wi_aload_n (i := 0) (x := 236) (nx := 237) (r1 := 0) (r2 := 0) (r3 := 0) rfl rfl ?_
        have b9 := gi_b (lo := 0) (hi := 4) g 236 6 rfl
        refine wr_gi0 (k0 := 236) (x := h 236 6) (nx := 240) (r1 := 11) (r2 := 6) (r3 := 0) rfl rfl (by decide) rfl ⟨rfl, rfl⟩ rfl rfl ?_
        refine wi_iconst (n := 1) (nx := 241) (r1 := 0) (r2 := 0) (r3 := 0) rfl ?_
        refine wi_icmp (cd := .ne) (nx := 244) (r1 := 252) (r2 := 0) (r3 := 0) rfl (by omega) (by omega) (fun (q10 : (h 236 6) ≠ 1) => ?_) (fun (q10 : ¬ ((h 236 6) ≠ 1)) => ?_)
        ·
          refine wi_iconst (n := 0) (nx := 253) (r1 := 0) (r2 := 0) (r3 := 0) rfl ?_
          refine wi_zreturn (nx := 254) (r1 := 0) (r2 := 0) (r3 := 0) rfl rfl (by omega) ?_
          exact k 0 (by omega)
        ·
          refine wi_iload_n (i := 1) (e := 1) (nx := 245) (r1 := 0) (r2 := 0) (r3 := 0) rfl rfl ?_
          refine wi_if (cd := .ne) (nx := 248) (r1 := 252) (r2 := 0) (r3 := 0) rfl (by omega) (fun (q11 : 1 ≠ 0) => ?_) (fun (q11 : ¬ (1 ≠ 0)) => by exfalso; omega)
          refine wi_iconst (n := 0) (nx := 253) (r1 := 0) (r2 := 0) (r3 := 0) rfl ?_
          refine wi_zreturn (nx := 254) (r1 := 0) (r2 := 0) (r3 := 0) rfl rfl (by omega) ?_
          exact k 0 (by omega)
      ·
        refine wi_aload_n (i := 0) (x := 236) (nx := 34) (r1 := 0) (r2 := 0) (r3 := 0) rfl rfl ?_
        refine wr_gi1 (k0 := 236) (x := h 236 12) (nx := 37) (r1 := 11) (r2 := 12) (r3 := 0) rfl rfl (by decide) rfl ⟨rfl, rfl⟩ rfl rfl ?_
        refine wi_ldc2_w (e := 3122) (nx := 40) (r1 := 3122) (r2 := 0) (r3 := 0) rfl (by decide) ?_
        refine wi_lcmp (a := h 236 12) (e := 3122) (nx := 41) (r1 := 0) (r2 := 0) (r3 := 0) rfl (by omega) (by omega) (fun r8 (fr8 : (r8 = -1 ∧ (h 236 12) < 3122) ∨ (r8 = 0 ∧ (h 236 12) = 3122) ∨ (r8 = 1 ∧ 3122 < (h 236 12))) => ?_)
        refine wi_if (cd := .eq) (nx := 44) (r1 := 110) (r2 := 0) (r3 := 0) rfl (by omega) (fun (q9 : r8 = 0) => ?_) (fun (q9 : ¬ (r8 = 0)) => ?_)
        ·
          refine wi_iconst (n := 1) (nx := 111) (r1 := 0) (r2 := 0) (r3 := 0) rfl ?_
          refine wi_goto (nx := 114) (r1 := 115) (r2 := 0) (r3 := 0) rfl ?_
          refine wi_istore_n (i := 1) (e := 1) (lo2 := [(1, vi 1), (0, .ref 236)]) (nx := 116) (r1 := 0) (r2 := 0) (r3 := 0) rfl rfl ?_
          refine wi_iload_n (i := 1) (e := 1) (nx := 117) (r1 := 0) (r2 := 0) (r3 := 0) rfl rfl ?_
          refine wi_if (cd := .ne) (nx := 120) (r1 := 230) (r2 := 0) (r3 := 0) rfl (by omega) (fun (q10 : 1 ≠ 0) => ?_) (fun (q10 : ¬ (1 ≠ 0)) => by exfalso; omega)
          refine wi_iconst (n := 1) (nx := 231) (r1 := 0) (r2 := 0) (r3 := 0) rfl ?_
          refine wi_goto (nx := 234) (r1 := 235) (r2 := 0) (r3 := 0) rfl ?_
          refine wi_istore_n (i := 1) (e := 1) (lo2 := [(1, vi 1), (0, .ref 236)]) (nx := 236) (r1 := 0) (r2 := 0) (r3 := 0) rfl rfl ?_
          refine wi_aload_n (i := 0) (x := 236) (nx := 237) (r1 := 0) (r2 := 0) (r3 := 0) rfl rfl ?_
          have b11 := gi_b (lo := 0) (hi := 4) g 236 6 rfl
          refine wr_gi0 (k0 := 236) (x := h 236 6) (nx := 240) (r1 := 11) (r2 := 6) (r3 := 0) rfl rfl (by decide) rfl ⟨rfl, rfl⟩ rfl rfl ?_
          refine wi_iconst (n := 1) (nx := 241) (r1 := 0) (r2 := 0) (r3 := 0) rfl ?_
          refine wi_icmp (cd := .ne) (nx := 244) (r1 := 252) (r2 := 0) (r3 := 0) rfl (by omega) (by omega) (fun (q12 : (h 236 6) ≠ 1) => ?_) (fun (q12 : ¬ ((h 236 6) ≠ 1)) => ?_)
          ·
            refine wi_iconst (n := 0) (nx := 253) (r1 := 0) (r2 := 0) (r3 := 0) rfl ?_
            refine wi_zreturn (nx := 254) (r1 := 0) (r2 := 0) (r3 := 0) rfl rfl (by omega) ?_
            exact k 0 (by omega)
          ·
            refine wi_iload_n (i := 1) (e := 1) (nx := 245) (r1 := 0) (r2 := 0) (r3 := 0) rfl rfl ?_
            refine wi_if (cd := .ne) (nx := 248) (r1 := 252) (r2 := 0) (r3 := 0) rfl (by omega) (fun (q13 : 1 ≠ 0) => ?_) (fun (q13 : ¬ (1 ≠ 0)) => by exfalso; omega)
            refine wi_iconst (n := 0) (nx := 253) (r1 := 0) (r2 := 0) (r3 := 0) rfl ?_
            refine wi_zreturn (nx := 254) (r1 := 0) (r2 := 0) (r3 := 0) rfl rfl (by omega) ?_
            exact k 0 (by omega)
        ·
          refine wi_aload_n (i := 0) (x := 236) (nx := 45) (r1 := 0) (r2 := 0) (r3 := 0) rfl rfl ?_
          refine wr_gi1 (k0 := 236) (x := h 236 12) (nx := 48) (r1 := 11) (r2 := 12) (r3 := 0) rfl rfl (by decide) rfl ⟨rfl, rfl⟩ rfl rfl ?_
          refine wi_ldc2_w (e := 81049) (nx := 51) (r1 := 81049) (r2 := 0) (r3 := 0) rfl (by decide) ?_
          refine wi_lcmp (a := h 236 12) (e := 81049) (nx := 52) (r1 := 0) (r2 := 0) (r3 := 0) rfl (by omega) (by omega) (fun r10 (fr10 : (r10 = -1 ∧ (h 236 12) < 81049) ∨ (r10 = 0 ∧ (h 236 12) = 81049) ∨ (r10 = 1 ∧ 81049 < (h 236 12))) => ?_)
          refine wi_if (cd := .eq) (nx := 55) (r1 := 110) (r2 := 0) (r3 := 0) rfl (by omega) (fun (q11 : r10 = 0) => ?_) (fun (q11 : ¬ (r10 = 0)) => ?_)
          ·
            refine wi_iconst (n := 1) (nx := 111) (r1 := 0) (r2 := 0) (r3 := 0) rfl ?_
            refine wi_goto (nx := 114) (r1 := 115) (r2 := 0) (r3 := 0) rfl ?_
            refine wi_istore_n (i := 1) (e := 1) (lo2 := [(1, vi 1), (0, .ref 236)]) (nx := 116) (r1 := 0) (r2 := 0) (r3 := 0) rfl rfl ?_
            refine wi_iload_n (i := 1) (e := 1) (nx := 117) (r1 := 0) (r2 := 0) (r3 := 0) rfl rfl ?_
            refine wi_if (cd := .ne) (nx := 120) (r1 := 230) (r2 := 0) (r3 := 0) rfl (by omega) (fun (q12 : 1 ≠ 0) => ?_) (fun (q12 : ¬ (1 ≠ 0)) => by exfalso; omega)
            refine wi_iconst (n := 1) (nx := 231) (r1 := 0) (r2 := 0) (r3 := 0) rfl ?_
            refine wi_goto (nx := 234) (r1 := 235) (r2 := 0) (r3 := 0) rfl ?_
            refine wi_istore_n (i := 1) (e := 1) (lo2 := [(1, vi 1), (0, .ref 236)]) (nx := 236) (r1 := 0) (r2 := 0) (r3 := 0) rfl rfl ?_
            refine wi_aload_n (i := 0) (x := 236) (nx := 237) (r1 := 0) (r2 := 0) (r3 := 0) rfl rfl ?_
            have b13 := gi_b (lo := 0) (hi := 4) g 236 6 rfl
            refine wr_gi0 (k0 := 236) (x := h 236 6) (nx := 240) (r1 := 11) (r2 := 6) (r3 := 0) rfl rfl (by decide) rfl ⟨rfl, rfl⟩ rfl rfl ?_
            refine wi_iconst (n := 1) (nx := 241) (r1 := 0) (r2 := 0) (r3 := 0) rfl ?_
            refine wi_icmp (cd := .ne) (nx := 244) (r1 := 252) (r2 := 0) (r3 := 0) rfl (by omega) (by omega) (fun (q14 : (h 236 6) ≠ 1) => ?_) (fun (q14 : ¬ ((h 236 6) ≠ 1)) => ?_)
            ·
              refine wi_iconst (n := 0) (nx := 253) (r1 := 0) (r2 := 0) (r3 := 0) rfl ?_
              refine wi_zreturn (nx := 254) (r1 := 0) (r2 := 0) (r3 := 0) rfl rfl (by omega) ?_
              exact k 0 (by omega)
            ·
              refine wi_iload_n (i := 1) (e := 1) (nx := 245) (r1 := 0) (r2 := 0) (r3 := 0) rfl rfl ?_
              refine wi_if (cd := .ne) (nx := 248) (r1 := 252) (r2 := 0) (r3 := 0) rfl (by omega) (fun (q15 : 1 ≠ 0) => ?_) (fun (q15 : ¬ (1 ≠ 0)) => by exfalso; omega)
              refine wi_iconst (n := 0) (nx := 253) (r1 := 0) (r2 := 0) (r3 := 0) rfl ?_
              refine wi_zreturn (nx := 254) (r1 := 0) (r2 := 0) (r3 := 0) rfl rfl (by omega) ?_
              exact k 0 (by omega)
          ·
            refine wi_aload_n (i := 0) (x := 236) (nx := 56) (r1 := 0) (r2 := 0) (r3 := 0) rfl rfl ?_
            refine wr_gi1 (k0 := 236) (x := h 236 12) (nx := 59) (r1 := 11) (r2 := 12) (r3 := 0) rfl rfl (by decide) rfl ⟨rfl, rfl⟩ rfl rfl ?_
            refine wi_ldc2_w (e := 2084) (nx := 62) (r1 := 2084) (r2 := 0) (r3 := 0) rfl (by decide) ?_
            refine wi_lcmp (a := h 236 12) (e := 2084) (nx := 63) (r1 := 0) (r2 := 0) (r3 := 0) rfl (by omega) (by omega) (fun r12 (fr12 : (r12 = -1 ∧ (h 236 12) < 2084) ∨ (r12 = 0 ∧ (h 236 12) = 2084) ∨ (r12 = 1 ∧ 2084 < (h 236 12))) => ?_)
            refine wi_if (cd := .eq) (nx := 66) (r1 := 110) (r2 := 0) (r3 := 0) rfl (by omega) (fun (q13 : r12 = 0) => ?_) (fun (q13 : ¬ (r12 = 0)) => ?_)
            ·
              refine wi_iconst (n := 1) (nx := 111) (r1 := 0) (r2 := 0) (r3 := 0) rfl ?_
              refine wi_goto (nx := 114) (r1 := 115) (r2 := 0) (r3 := 0) rfl ?_
              refine wi_istore_n (i := 1) (e := 1) (lo2 := [(1, vi 1), (0, .ref 236)]) (nx := 116) (r1 := 0) (r2 := 0) (r3 := 0) rfl rfl ?_
              refine wi_iload_n (i := 1) (e := 1) (nx := 117) (r1 := 0) (r2 := 0) (r3 := 0) rfl rfl ?_
              refine wi_if (cd := .ne) (nx := 120) (r1 := 230) (r2 := 0) (r3 := 0) rfl (by omega) (fun (q14 : 1 ≠ 0) => ?_) (fun (q14 : ¬ (1 ≠ 0)) => by exfalso; omega)
              refine wi_iconst (n := 1) (nx := 231) (r1 := 0) (r2 := 0) (r3 := 0) rfl ?_
              refine wi_goto (nx := 234) (r1 := 235) (r2 := 0) (r3 := 0) rfl ?_
              refine wi_istore_n (i := 1) (e := 1) (lo2 := [(1, vi 1), (0, .ref 236)]) (nx := 236) (r1 := 0) (r2 := 0) (r3 := 0) rfl rfl ?_
              refine wi_aload_n (i := 0) (x := 236) (nx := 237) (r1 := 0) (r2 := 0) (r3 := 0) rfl rfl ?_
              have b15 := gi_b (lo := 0) (hi := 4) g 236 6 rfl
              refine wr_gi0 (k0 := 236) (x := h 236 6) (nx := 240) (r1 := 11) (r2 := 6) (r3 := 0) rfl rfl (by decide) rfl ⟨rfl, rfl⟩ rfl rfl ?_
              refine wi_iconst (n := 1) (nx := 241) (r1 := 0) (r2 := 0) (r3 := 0) rfl ?_
              refine wi_icmp (cd := .ne) (nx := 244) (r1 := 252) (r2 := 0) (r3 := 0) rfl (by omega) (by omega) (fun (q16 : (h 236 6) ≠ 1) => ?_) (fun (q16 : ¬ ((h 236 6) ≠ 1)) => ?_)
              ·
                refine wi_iconst (n := 0) (nx := 253) (r1 := 0) (r2 := 0) (r3 := 0) rfl ?_
                refine wi_zreturn (nx := 254) (r1 := 0) (r2 := 0) (r3 := 0) rfl rfl (by omega) ?_
                exact k 0 (by omega)
              ·
                refine wi_iload_n (i := 1) (e := 1) (nx := 245) (r1 := 0) (r2 := 0) (r3 := 0) rfl rfl ?_
                refine wi_if (cd := .ne) (nx := 248) (r1 := 252) (r2 := 0) (r3 := 0) rfl (by omega) (fun (q17 : 1 ≠ 0) => ?_) (fun (q17 : ¬ (1 ≠ 0)) => by exfalso; omega)
                refine wi_iconst (n := 0) (nx := 253) (r1 := 0) (r2 := 0) (r3 := 0) rfl ?_
                refine wi_zreturn (nx := 254) (r1 := 0) (r2 := 0) (r3 := 0) rfl rfl (by omega) ?_
                exact k 0 (by omega)
            ·
              refine wi_aload_n (i := 0) (x := 236) (nx := 67) (r1 := 0) (r2 := 0) (r3 := 0) rfl rfl ?_
              refine wr_gi1 (k0 := 236) (x := h 236 12) (nx := 70) (r1 := 11) (r2 := 12) (r3 := 0) rfl rfl (by decide) rfl ⟨rfl, rfl⟩ rfl rfl ?_
              refine wi_ldc2_w (e := 781652471) (nx := 73) (r1 := 781652471) (r2 := 0) (r3 := 0) rfl (by decide) ?_
              refine wi_lcmp (a := h 236 12) (e := 781652471) (nx := 74) (r1 := 0) (r2 := 0) (r3 := 0) rfl (by omega) (by omega) (fun r14 (fr14 : (r14 = -1 ∧ (h 236 12) < 781652471) ∨ (r14 = 0 ∧ (h 236 12) = 781652471) ∨ (r14 = 1 ∧ 781652471 < (h 236 12))) => ?_)
              refine wi_if (cd := .eq) (nx := 77) (r1 := 110) (r2 := 0) (r3 := 0) rfl (by omega) (fun (q15 : r14 = 0) => ?_) (fun (q15 : ¬ (r14 = 0)) => ?_)
              ·
                refine wi_iconst (n := 1) (nx := 111) (r1 := 0) (r2 := 0) (r3 := 0) rfl ?_
                refine wi_goto (nx := 114) (r1 := 115) (r2 := 0) (r3 := 0) rfl ?_
                refine wi_istore_n (i := 1) (e := 1) (lo2 := [(1, vi 1), (0, .ref 236)]) (nx := 116) (r1 := 0) (r2 := 0) (r3 := 0) rfl rfl ?_
                refine wi_iload_n (i := 1) (e := 1) (nx := 117) (r1 := 0) (r2 := 0) (r3 := 0) rfl rfl ?_
                refine wi_if (cd := .ne) (nx := 120) (r1 := 230) (r2 := 0) (r3 := 0) rfl (by omega) (fun (q16 : 1 ≠ 0) => ?_) (fun (q16 : ¬ (1 ≠ 0)) => by exfalso; omega)
                refine wi_iconst (n := 1) (nx := 231) (r1 := 0) (r2 := 0) (r3 := 0) rfl ?_
                refine wi_goto (nx := 234) (r1 := 235) (r2 := 0) (r3 := 0) rfl ?_
                refine wi_istore_n (i := 1) (e := 1) (lo2 := [(1, vi 1), (0, .ref 236)]) (nx := 236) (r1 := 0) (r2 := 0) (r3 := 0) rfl rfl ?_
                refine wi_aload_n (i := 0) (x := 236) (nx := 237) (r1 := 0) (r2 := 0) (r3 := 0) rfl rfl ?_
                have b17 := gi_b (lo := 0) (hi := 4) g 236 6 rfl
                refine wr_gi0 (k0 := 236) (x := h 236 6) (nx := 240) (r1 := 11) (r2 := 6) (r3 := 0) rfl rfl (by decide) rfl ⟨rfl, rfl⟩ rfl rfl ?_
                refine wi_iconst (n := 1) (nx := 241) (r1 := 0) (r2 := 0) (r3 := 0) rfl ?_
                refine wi_icmp (cd := .ne) (nx := 244) (r1 := 252) (r2 := 0) (r3 := 0) rfl (by omega) (by omega) (fun (q18 : (h 236 6) ≠ 1) => ?_) (fun (q18 : ¬ ((h 236 6) ≠ 1)) => ?_)
                ·
                  refine wi_iconst (n := 0) (nx := 253) (r1 := 0) (r2 := 0) (r3 := 0) rfl ?_
                  refine wi_zreturn (nx := 254) (r1 := 0) (r2 := 0) (r3 := 0) rfl rfl (by omega) ?_
                  exact k 0 (by omega)
                ·
                  refine wi_iload_n (i := 1) (e := 1) (nx := 245) (r1 := 0) (r2 := 0) (r3 := 0) rfl rfl ?_
                  refine wi_if (cd := .ne) (nx := 248) (r1 := 252) (r2 := 0) (r3 := 0) rfl (by omega) (fun (q19 : 1 ≠ 0) => ?_) (fun (q19 : ¬ (1 ≠ 0)) => by exfalso; omega)
                  refine wi_iconst (n := 0) (nx := 253) (r1 := 0) (r2 := 0) (r3 := 0) rfl ?_
                  refine wi_zreturn (nx := 254) (r1 := 0) (r2 := 0) (r3 := 0) rfl rfl (by omega) ?_
                  exact k 0 (by omega)
              ·
                refine wi_aload_n (i := 0) (x := 236) (nx := 78) (r1 := 0) (r2 := 0) (r3 := 0) rfl rfl ?_
                refine wr_gi1 (k0 := 236) (x := h 236 12) (nx := 81) (r1 := 11) (r2 := 12) (r3 := 0) rfl rfl (by decide) rfl ⟨rfl, rfl⟩ rfl rfl ?_
                refine wi_ldc2_w (e := 2150504) (nx := 84) (r1 := 2150504) (r2 := 0) (r3 := 0) rfl (by decide) ?_
                refine wi_lcmp (a := h 236 12) (e := 2150504) (nx := 85) (r1 := 0) (r2 := 0) (r3 := 0) rfl (by omega) (by omega) (fun r16 (fr16 : (r16 = -1 ∧ (h 236 12) < 2150504) ∨ (r16 = 0 ∧ (h 236 12) = 2150504) ∨ (r16 = 1 ∧ 2150504 < (h 236 12))) => ?_)
                refine wi_if (cd := .eq) (nx := 88) (r1 := 110) (r2 := 0) (r3 := 0) rfl (by omega) (fun (q17 : r16 = 0) => ?_) (fun (q17 : ¬ (r16 = 0)) => ?_)
                ·
                  refine wi_iconst (n := 1) (nx := 111) (r1 := 0) (r2 := 0) (r3 := 0) rfl ?_
                  refine wi_goto (nx := 114) (r1 := 115) (r2 := 0) (r3 := 0) rfl ?_
                  refine wi_istore_n (i := 1) (e := 1) (lo2 := [(1, vi 1), (0, .ref 236)]) (nx := 116) (r1 := 0) (r2 := 0) (r3 := 0) rfl rfl ?_
                  refine wi_iload_n (i := 1) (e := 1) (nx := 117) (r1 := 0) (r2 := 0) (r3 := 0) rfl rfl ?_
                  refine wi_if (cd := .ne) (nx := 120) (r1 := 230) (r2 := 0) (r3 := 0) rfl (by omega) (fun (q18 : 1 ≠ 0) => ?_) (fun (q18 : ¬ (1 ≠ 0)) => by exfalso; omega)
                  refine wi_iconst (n := 1) (nx := 231) (r1 := 0) (r2 := 0) (r3 := 0) rfl ?_
                  refine wi_goto (nx := 234) (r1 := 235) (r2 := 0) (r3 := 0) rfl ?_
                  refine wi_istore_n (i := 1) (e := 1) (lo2 := [(1, vi 1), (0, .ref 236)]) (nx := 236) (r1 := 0) (r2 := 0) (r3 := 0) rfl rfl ?_
                  refine wi_aload_n (i := 0) (x := 236) (nx := 237) (r1 := 0) (r2 := 0) (r3 := 0) rfl rfl ?_
                  have b19 := gi_b (lo := 0) (hi := 4) g 236 6 rfl
                  refine wr_gi0 (k0 := 236) (x := h 236 6) (nx := 240) (r1 := 11) (r2 := 6) (r3 := 0) rfl rfl (by decide) rfl ⟨rfl, rfl⟩ rfl rfl ?_
                  refine wi_iconst (n := 1) (nx := 241) (r1 := 0) (r2 := 0) (r3 := 0) rfl ?_
                  refine wi_icmp (cd := .ne) (nx := 244) (r1 := 252) (r2 := 0) (r3 := 0) rfl (by omega) (by omega) (fun (q20 : (h 236 6) ≠ 1) => ?_) (fun (q20 : ¬ ((h 236 6) ≠ 1)) => ?_)
                  ·
                    refine wi_iconst (n := 0) (nx := 253) (r1 := 0) (r2 := 0) (r3 := 0) rfl ?_
                    refine wi_zreturn (nx := 254) (r1 := 0) (r2 := 0) (r3 := 0) rfl rfl (by omega) ?_
                    exact k 0 (by omega)
                  ·
                    refine wi_iload_n (i := 1) (e := 1) (nx := 245) (r1 := 0) (r2 := 0) (r3 := 0) rfl rfl ?_
                    refine wi_if (cd := .ne) (nx := 248) (r1 := 252) (r2 := 0) (r3 := 0) rfl (by omega) (fun (q21 : 1 ≠ 0) => ?_) (fun (q21 : ¬ (1 ≠ 0)) => by exfalso; omega)
                    refine wi_iconst (n := 0) (nx := 253) (r1 := 0) (r2 := 0) (r3 := 0) rfl ?_
                    refine wi_zreturn (nx := 254) (r1 := 0) (r2 := 0) (r3 := 0) rfl rfl (by omega) ?_
                    exact k 0 (by omega)
                ·
                  refine wi_aload_n (i := 0) (x := 236) (nx := 89) (r1 := 0) (r2 := 0) (r3 := 0) rfl rfl ?_
                  refine wr_gi1 (k0 := 236) (x := h 236 12) (nx := 92) (r1 := 11) (r2 := 12) (r3 := 0) rfl rfl (by decide) rfl ⟨rfl, rfl⟩ rfl rfl ?_
                  refine wi_ldc2_w (e := 17484005) (nx := 95) (r1 := 17484005) (r2 := 0) (r3 := 0) rfl (by decide) ?_
                  refine wi_lcmp (a := h 236 12) (e := 17484005) (nx := 96) (r1 := 0) (r2 := 0) (r3 := 0) rfl (by omega) (by omega) (fun r18 (fr18 : (r18 = -1 ∧ (h 236 12) < 17484005) ∨ (r18 = 0 ∧ (h 236 12) = 17484005) ∨ (r18 = 1 ∧ 17484005 < (h 236 12))) => ?_)
                  refine wi_if (cd := .eq) (nx := 99) (r1 := 110) (r2 := 0) (r3 := 0) rfl (by omega) (fun (q19 : r18 = 0) => ?_) (fun (q19 : ¬ (r18 = 0)) => ?_)
                  ·
                    refine wi_iconst (n := 1) (nx := 111) (r1 := 0) (r2 := 0) (r3 := 0) rfl ?_
                    refine wi_goto (nx := 114) (r1 := 115) (r2 := 0) (r3 := 0) rfl ?_
                    refine wi_istore_n (i := 1) (e := 1) (lo2 := [(1, vi 1), (0, .ref 236)]) (nx := 116) (r1 := 0) (r2 := 0) (r3 := 0) rfl rfl ?_
                    refine wi_iload_n (i := 1) (e := 1) (nx := 117) (r1 := 0) (r2 := 0) (r3 := 0) rfl rfl ?_
                    refine wi_if (cd := .ne) (nx := 120) (r1 := 230) (r2 := 0) (r3 := 0) rfl (by omega) (fun (q20 : 1 ≠ 0) => ?_) (fun (q20 : ¬ (1 ≠ 0)) => by exfalso; omega)
                    refine wi_iconst (n := 1) (nx := 231) (r1 := 0) (r2 := 0) (r3 := 0) rfl ?_
                    refine wi_goto (nx := 234) (r1 := 235) (r2 := 0) (r3 := 0) rfl ?_
                    refine wi_istore_n (i := 1) (e := 1) (lo2 := [(1, vi 1), (0, .ref 236)]) (nx := 236) (r1 := 0) (r2 := 0) (r3 := 0) rfl rfl ?_
                    refine wi_aload_n (i := 0) (x := 236) (nx := 237) (r1 := 0) (r2 := 0) (r3 := 0) rfl rfl ?_
                    have b21 := gi_b (lo := 0) (hi := 4) g 236 6 rfl
                    refine wr_gi0 (k0 := 236) (x := h 236 6) (nx := 240) (r1 := 11) (r2 := 6) (r3 := 0) rfl rfl (by decide) rfl ⟨rfl, rfl⟩ rfl rfl ?_
                    refine wi_iconst (n := 1) (nx := 241) (r1 := 0) (r2 := 0) (r3 := 0) rfl ?_
                    refine wi_icmp (cd := .ne) (nx := 244) (r1 := 252) (r2 := 0) (r3 := 0) rfl (by omega) (by omega) (fun (q22 : (h 236 6) ≠ 1) => ?_) (fun (q22 : ¬ ((h 236 6) ≠ 1)) => ?_)
                    ·
                      refine wi_iconst (n := 0) (nx := 253) (r1 := 0) (r2 := 0) (r3 := 0) rfl ?_
                      refine wi_zreturn (nx := 254) (r1 := 0) (r2 := 0) (r3 := 0) rfl rfl (by omega) ?_
                      exact k 0 (by omega)
                    ·
                      refine wi_iload_n (i := 1) (e := 1) (nx := 245) (r1 := 0) (r2 := 0) (r3 := 0) rfl rfl ?_
                      refine wi_if (cd := .ne) (nx := 248) (r1 := 252) (r2 := 0) (r3 := 0) rfl (by omega) (fun (q23 : 1 ≠ 0) => ?_) (fun (q23 : ¬ (1 ≠ 0)) => by exfalso; omega)
                      refine wi_iconst (n := 0) (nx := 253) (r1 := 0) (r2 := 0) (r3 := 0) rfl ?_
                      refine wi_zreturn (nx := 254) (r1 := 0) (r2 := 0) (r3 := 0) rfl rfl (by omega) ?_
                      exact k 0 (by omega)
                  ·
                    refine wi_aload_n (i := 0) (x := 236) (nx := 100) (r1 := 0) (r2 := 0) (r3 := 0) rfl rfl ?_
                    refine wr_gi1 (k0 := 236) (x := h 236 12) (nx := 103) (r1 := 11) (r2 := 12) (r3 := 0) rfl rfl (by decide) rfl ⟨rfl, rfl⟩ rfl rfl ?_
                    refine wi_ldc2_w (e := 609992267) (nx := 106) (r1 := 609992267) (r2 := 0) (r3 := 0) rfl (by decide) ?_
                    refine wi_lcmp (a := h 236 12) (e := 609992267) (nx := 107) (r1 := 0) (r2 := 0) (r3 := 0) rfl (by omega) (by omega) (fun r20 (fr20 : (r20 = -1 ∧ (h 236 12) < 609992267) ∨ (r20 = 0 ∧ (h 236 12) = 609992267) ∨ (r20 = 1 ∧ 609992267 < (h 236 12))) => ?_)
                    refine wi_if (cd := .ne) (nx := 110) (r1 := 114) (r2 := 0) (r3 := 0) rfl (by omega) (fun (q21 : r20 ≠ 0) => ?_) (fun (q21 : ¬ (r20 ≠ 0)) => ?_)
                    ·
                      refine wi_iconst (n := 0) (nx := 115) (r1 := 0) (r2 := 0) (r3 := 0) rfl ?_
                      refine wi_istore_n (i := 1) (e := 0) (lo2 := [(1, vi 0), (0, .ref 236)]) (nx := 116) (r1 := 0) (r2 := 0) (r3 := 0) rfl rfl ?_
                      refine wi_iload_n (i := 1) (e := 0) (nx := 117) (r1 := 0) (r2 := 0) (r3 := 0) rfl rfl ?_
                      refine wi_if (cd := .ne) (nx := 120) (r1 := 230) (r2 := 0) (r3 := 0) rfl (by omega) (fun (q22 : 0 ≠ 0) => by exfalso; omega) (fun (q22 : ¬ (0 ≠ 0)) => ?_)
                      refine wi_aload_n (i := 0) (x := 236) (nx := 121) (r1 := 0) (r2 := 0) (r3 := 0) rfl rfl ?_
                      refine wr_gi1 (k0 := 236) (x := h 236 12) (nx := 124) (r1 := 11) (r2 := 12) (r3 := 0) rfl rfl (by decide) rfl ⟨rfl, rfl⟩ rfl rfl ?_
                      refine wi_ldc2_w (e := 4370489) (nx := 127) (r1 := 4370489) (r2 := 0) (r3 := 0) rfl (by decide) ?_
                      refine wi_lcmp (a := h 236 12) (e := 4370489) (nx := 128) (r1 := 0) (r2 := 0) (r3 := 0) rfl (by omega) (by omega) (fun r23 (fr23 : (r23 = -1 ∧ (h 236 12) < 4370489) ∨ (r23 = 0 ∧ (h 236 12) = 4370489) ∨ (r23 = 1 ∧ 4370489 < (h 236 12))) => ?_)
                      refine wi_if (cd := .eq) (nx := 131) (r1 := 230) (r2 := 0) (r3 := 0) rfl (by omega) (fun (q24 : r23 = 0) => ?_) (fun (q24 : ¬ (r23 = 0)) => ?_)
                      ·
                        refine wi_iconst (n := 1) (nx := 231) (r1 := 0) (r2 := 0) (r3 := 0) rfl ?_
                        refine wi_goto (nx := 234) (r1 := 235) (r2 := 0) (r3 := 0) rfl ?_
                        refine wi_istore_n (i := 1) (e := 1) (lo2 := [(1, vi 1), (0, .ref 236)]) (nx := 236) (r1 := 0) (r2 := 0) (r3 := 0) rfl rfl ?_
                        refine wi_aload_n (i := 0) (x := 236) (nx := 237) (r1 := 0) (r2 := 0) (r3 := 0) rfl rfl ?_
                        have b25 := gi_b (lo := 0) (hi := 4) g 236 6 rfl
                        refine wr_gi0 (k0 := 236) (x := h 236 6) (nx := 240) (r1 := 11) (r2 := 6) (r3 := 0) rfl rfl (by decide) rfl ⟨rfl, rfl⟩ rfl rfl ?_
                        refine wi_iconst (n := 1) (nx := 241) (r1 := 0) (r2 := 0) (r3 := 0) rfl ?_
                        refine wi_icmp (cd := .ne) (nx := 244) (r1 := 252) (r2 := 0) (r3 := 0) rfl (by omega) (by omega) (fun (q26 : (h 236 6) ≠ 1) => ?_) (fun (q26 : ¬ ((h 236 6) ≠ 1)) => ?_)
                        ·
                          refine wi_iconst (n := 0) (nx := 253) (r1 := 0) (r2 := 0) (r3 := 0) rfl ?_
                          refine wi_zreturn (nx := 254) (r1 := 0) (r2 := 0) (r3 := 0) rfl rfl (by omega) ?_
                          exact k 0 (by omega)
                        ·
                          refine wi_iload_n (i := 1) (e := 1) (nx := 245) (r1 := 0) (r2 := 0) (r3 := 0) rfl rfl ?_
                          refine wi_if (cd := .ne) (nx := 248) (r1 := 252) (r2 := 0) (r3 := 0) rfl (by omega) (fun (q27 : 1 ≠ 0) => ?_) (fun (q27 : ¬ (1 ≠ 0)) => by exfalso; omega)
                          refine wi_iconst (n := 0) (nx := 253) (r1 := 0) (r2 := 0) (r3 := 0) rfl ?_
                          refine wi_zreturn (nx := 254) (r1 := 0) (r2 := 0) (r3 := 0) rfl rfl (by omega) ?_
                          exact k 0 (by omega)
                      ·
                        refine wi_aload_n (i := 0) (x := 236) (nx := 132) (r1 := 0) (r2 := 0) (r3 := 0) rfl rfl ?_
                        refine wr_gi1 (k0 := 236) (x := h 236 12) (nx := 135) (r1 := 11) (r2 := 12) (r3 := 0) rfl rfl (by decide) rfl ⟨rfl, rfl⟩ rfl rfl ?_
                        refine wi_ldc2_w (e := 639022) (nx := 138) (r1 := 639022) (r2 := 0) (r3 := 0) rfl (by decide) ?_
                        refine wi_lcmp (a := h 236 12) (e := 639022) (nx := 139) (r1 := 0) (r2 := 0) (r3 := 0) rfl (by omega) (by omega) (fun r25 (fr25 : (r25 = -1 ∧ (h 236 12) < 639022) ∨ (r25 = 0 ∧ (h 236 12) = 639022) ∨ (r25 = 1 ∧ 639022 < (h 236 12))) => ?_)
                        refine wi_if (cd := .eq) (nx := 142) (r1 := 230) (r2 := 0) (r3 := 0) rfl (by omega) (fun (q26 : r25 = 0) => ?_) (fun (q26 : ¬ (r25 = 0)) => ?_)
                        ·
                          refine wi_iconst (n := 1) (nx := 231) (r1 := 0) (r2 := 0) (r3 := 0) rfl ?_
                          refine wi_goto (nx := 234) (r1 := 235) (r2 := 0) (r3 := 0) rfl ?_
                          refine wi_istore_n (i := 1) (e := 1) (lo2 := [(1, vi 1), (0, .ref 236)]) (nx := 236) (r1 := 0) (r2 := 0) (r3 := 0) rfl rfl ?_
                          refine wi_aload_n (i := 0) (x := 236) (nx := 237) (r1 := 0) (r2 := 0) (r3 := 0) rfl rfl ?_
                          have b27 := gi_b (lo := 0) (hi := 4) g 236 6 rfl
                          refine wr_gi0 (k0 := 236) (x := h 236 6) (nx := 240) (r1 := 11) (r2 := 6) (r3 := 0) rfl rfl (by decide) rfl ⟨rfl, rfl⟩ rfl rfl ?_
                          refine wi_iconst (n := 1) (nx := 241) (r1 := 0) (r2 := 0) (r3 := 0) rfl ?_
                          refine wi_icmp (cd := .ne) (nx := 244) (r1 := 252) (r2 := 0) (r3 := 0) rfl (by omega) (by omega) (fun (q28 : (h 236 6) ≠ 1) => ?_) (fun (q28 : ¬ ((h 236 6) ≠ 1)) => ?_)
                          ·
                            refine wi_iconst (n := 0) (nx := 253) (r1 := 0) (r2 := 0) (r3 := 0) rfl ?_
                            refine wi_zreturn (nx := 254) (r1 := 0) (r2 := 0) (r3 := 0) rfl rfl (by omega) ?_
                            exact k 0 (by omega)
                          ·
                            refine wi_iload_n (i := 1) (e := 1) (nx := 245) (r1 := 0) (r2 := 0) (r3 := 0) rfl rfl ?_
                            refine wi_if (cd := .ne) (nx := 248) (r1 := 252) (r2 := 0) (r3 := 0) rfl (by omega) (fun (q29 : 1 ≠ 0) => ?_) (fun (q29 : ¬ (1 ≠ 0)) => by exfalso; omega)
                            refine wi_iconst (n := 0) (nx := 253) (r1 := 0) (r2 := 0) (r3 := 0) rfl ?_
                            refine wi_zreturn (nx := 254) (r1 := 0) (r2 := 0) (r3 := 0) rfl rfl (by omega) ?_
                            exact k 0 (by omega)
                        ·
                          refine wi_aload_n (i := 0) (x := 236) (nx := 143) (r1 := 0) (r2 := 0) (r3 := 0) rfl rfl ?_
                          refine wr_gi1 (k0 := 236) (x := h 236 12) (nx := 146) (r1 := 11) (r2 := 12) (r3 := 0) rfl rfl (by decide) rfl ⟨rfl, rfl⟩ rfl rfl ?_
                          refine wi_ldc2_w (e := 5722290) (nx := 149) (r1 := 5722290) (r2 := 0) (r3 := 0) rfl (by decide) ?_
                          refine wi_lcmp (a := h 236 12) (e := 5722290) (nx := 150) (r1 := 0) (r2 := 0) (r3 := 0) rfl (by omega) (by omega) (fun r27 (fr27 : (r27 = -1 ∧ (h 236 12) < 5722290) ∨ (r27 = 0 ∧ (h 236 12) = 5722290) ∨ (r27 = 1 ∧ 5722290 < (h 236 12))) => ?_)
                          refine wi_if (cd := .eq) (nx := 153) (r1 := 230) (r2 := 0) (r3 := 0) rfl (by omega) (fun (q28 : r27 = 0) => ?_) (fun (q28 : ¬ (r27 = 0)) => ?_)
                          ·
                            refine wi_iconst (n := 1) (nx := 231) (r1 := 0) (r2 := 0) (r3 := 0) rfl ?_
                            refine wi_goto (nx := 234) (r1 := 235) (r2 := 0) (r3 := 0) rfl ?_
                            refine wi_istore_n (i := 1) (e := 1) (lo2 := [(1, vi 1), (0, .ref 236)]) (nx := 236) (r1 := 0) (r2 := 0) (r3 := 0) rfl rfl ?_
                            refine wi_aload_n (i := 0) (x := 236) (nx := 237) (r1 := 0) (r2 := 0) (r3 := 0) rfl rfl ?_
                            have b29 := gi_b (lo := 0) (hi := 4) g 236 6 rfl
                            refine wr_gi0 (k0 := 236) (x := h 236 6) (nx := 240) (r1 := 11) (r2 := 6) (r3 := 0) rfl rfl (by decide) rfl ⟨rfl, rfl⟩ rfl rfl ?_
                            refine wi_iconst (n := 1) (nx := 241) (r1 := 0) (r2 := 0) (r3 := 0) rfl ?_
                            refine wi_icmp (cd := .ne) (nx := 244) (r1 := 252) (r2 := 0) (r3 := 0) rfl (by omega) (by omega) (fun (q30 : (h 236 6) ≠ 1) => ?_) (fun (q30 : ¬ ((h 236 6) ≠ 1)) => ?_)
                            ·
                              refine wi_iconst (n := 0) (nx := 253) (r1 := 0) (r2 := 0) (r3 := 0) rfl ?_
                              refine wi_zreturn (nx := 254) (r1 := 0) (r2 := 0) (r3 := 0) rfl rfl (by omega) ?_
                              exact k 0 (by omega)
                            ·
                              refine wi_iload_n (i := 1) (e := 1) (nx := 245) (r1 := 0) (r2 := 0) (r3 := 0) rfl rfl ?_
                              refine wi_if (cd := .ne) (nx := 248) (r1 := 252) (r2 := 0) (r3 := 0) rfl (by omega) (fun (q31 : 1 ≠ 0) => ?_) (fun (q31 : ¬ (1 ≠ 0)) => by exfalso; omega)
                              refine wi_iconst (n := 0) (nx := 253) (r1 := 0) (r2 := 0) (r3 := 0) rfl ?_
                              refine wi_zreturn (nx := 254) (r1 := 0) (r2 := 0) (r3 := 0) rfl rfl (by omega) ?_
                              exact k 0 (by omega)
                          ·
                            refine wi_aload_n (i := 0) (x := 236) (nx := 154) (r1 := 0) (r2 := 0) (r3 := 0) rfl rfl ?_
                            refine wr_gi1 (k0 := 236) (x := h 236 12) (nx := 157) (r1 := 11) (r2 := 12) (r3 := 0) rfl rfl (by decide) rfl ⟨rfl, rfl⟩ rfl rfl ?_
                            refine wi_ldc2_w (e := 12748485) (nx := 160) (r1 := 12748485) (r2 := 0) (r3 := 0) rfl (by decide) ?_
                            refine wi_lcmp (a := h 236 12) (e := 12748485) (nx := 161) (r1 := 0) (r2 := 0) (r3 := 0) rfl (by omega) (by omega) (fun r29 (fr29 : (r29 = -1 ∧ (h 236 12) < 12748485) ∨ (r29 = 0 ∧ (h 236 12) = 12748485) ∨ (r29 = 1 ∧ 12748485 < (h 236 12))) => ?_)
                            refine wi_if (cd := .eq) (nx := 164) (r1 := 230) (r2 := 0) (r3 := 0) rfl (by omega) (fun (q30 : r29 = 0) => ?_) (fun (q30 : ¬ (r29 = 0)) => ?_)
                            ·
                              refine wi_iconst (n := 1) (nx := 231) (r1 := 0) (r2 := 0) (r3 := 0) rfl ?_
                              refine wi_goto (nx := 234) (r1 := 235) (r2 := 0) (r3 := 0) rfl ?_
                              refine wi_istore_n (i := 1) (e := 1) (lo2 := [(1, vi 1), (0, .ref 236)]) (nx := 236) (r1 := 0) (r2 := 0) (r3 := 0) rfl rfl ?_
                              refine wi_aload_n (i := 0) (x := 236) (nx := 237) (r1 := 0) (r2 := 0) (r3 := 0) rfl rfl ?_
                              have b31 := gi_b (lo := 0) (hi := 4) g 236 6 rfl
                              refine wr_gi0 (k0 := 236) (x := h 236 6) (nx := 240) (r1 := 11) (r2 := 6) (r3 := 0) rfl rfl (by decide) rfl ⟨rfl, rfl⟩ rfl rfl ?_
                              refine wi_iconst (n := 1) (nx := 241) (r1 := 0) (r2 := 0) (r3 := 0) rfl ?_
                              refine wi_icmp (cd := .ne) (nx := 244) (r1 := 252) (r2 := 0) (r3 := 0) rfl (by omega) (by omega) (fun (q32 : (h 236 6) ≠ 1) => ?_) (fun (q32 : ¬ ((h 236 6) ≠ 1)) => ?_)
                              ·
                                refine wi_iconst (n := 0) (nx := 253) (r1 := 0) (r2 := 0) (r3 := 0) rfl ?_
                                refine wi_zreturn (nx := 254) (r1 := 0) (r2 := 0) (r3 := 0) rfl rfl (by omega) ?_
                                exact k 0 (by omega)
                              ·
                                refine wi_iload_n (i := 1) (e := 1) (nx := 245) (r1 := 0) (r2 := 0) (r3 := 0) rfl rfl ?_
                                refine wi_if (cd := .ne) (nx := 248) (r1 := 252) (r2 := 0) (r3 := 0) rfl (by omega) (fun (q33 : 1 ≠ 0) => ?_) (fun (q33 : ¬ (1 ≠ 0)) => by exfalso; omega)
                                refine wi_iconst (n := 0) (nx := 253) (r1 := 0) (r2 := 0) (r3 := 0) rfl ?_
                                refine wi_zreturn (nx := 254) (r1 := 0) (r2 := 0) (r3 := 0) rfl rfl (by omega) ?_
                                exact k 0 (by omega)
                            ·
                              refine wi_aload_n (i := 0) (x := 236) (nx := 165) (r1 := 0) (r2 := 0) (r3 := 0) rfl rfl ?_
                              refine wr_gi1 (k0 := 236) (x := h 236 12) (nx := 168) (r1 := 11) (r2 := 12) (r3 := 0) rfl rfl (by decide) rfl ⟨rfl, rfl⟩ rfl rfl ?_
                              refine wi_ldc2_w (e := 66667) (nx := 171) (r1 := 66667) (r2 := 0) (r3 := 0) rfl (by decide) ?_
                              refine wi_lcmp (a := h 236 12) (e := 66667) (nx := 172) (r1 := 0) (r2 := 0) (r3 := 0) rfl (by omega) (by omega) (fun r31 (fr31 : (r31 = -1 ∧ (h 236 12) < 66667) ∨ (r31 = 0 ∧ (h 236 12) = 66667) ∨ (r31 = 1 ∧ 66667 < (h 236 12))) => ?_)
                              refine wi_if (cd := .eq) (nx := 175) (r1 := 230) (r2 := 0) (r3 := 0) rfl (by omega) (fun (q32 : r31 = 0) => ?_) (fun (q32 : ¬ (r31 = 0)) => ?_)
                              ·
                                refine wi_iconst (n := 1) (nx := 231) (r1 := 0) (r2 := 0) (r3 := 0) rfl ?_
                                refine wi_goto (nx := 234) (r1 := 235) (r2 := 0) (r3 := 0) rfl ?_
                                refine wi_istore_n (i := 1) (e := 1) (lo2 := [(1, vi 1), (0, .ref 236)]) (nx := 236) (r1 := 0) (r2 := 0) (r3 := 0) rfl rfl ?_
                                refine wi_aload_n (i := 0) (x := 236) (nx := 237) (r1 := 0) (r2 := 0) (r3 := 0) rfl rfl ?_
                                have b33 := gi_b (lo := 0) (hi := 4) g 236 6 rfl
                                refine wr_gi0 (k0 := 236) (x := h 236 6) (nx := 240) (r1 := 11) (r2 := 6) (r3 := 0) rfl rfl (by decide) rfl ⟨rfl, rfl⟩ rfl rfl ?_
                                refine wi_iconst (n := 1) (nx := 241) (r1 := 0) (r2 := 0) (r3 := 0) rfl ?_
                                refine wi_icmp (cd := .ne) (nx := 244) (r1 := 252) (r2 := 0) (r3 := 0) rfl (by omega) (by omega) (fun (q34 : (h 236 6) ≠ 1) => ?_) (fun (q34 : ¬ ((h 236 6) ≠ 1)) => ?_)
                                ·
                                  refine wi_iconst (n := 0) (nx := 253) (r1 := 0) (r2 := 0) (r3 := 0) rfl ?_
                                  refine wi_zreturn (nx := 254) (r1 := 0) (r2 := 0) (r3 := 0) rfl rfl (by omega) ?_
                                  exact k 0 (by omega)
                                ·
                                  refine wi_iload_n (i := 1) (e := 1) (nx := 245) (r1 := 0) (r2 := 0) (r3 := 0) rfl rfl ?_
                                  refine wi_if (cd := .ne) (nx := 248) (r1 := 252) (r2 := 0) (r3 := 0) rfl (by omega) (fun (q35 : 1 ≠ 0) => ?_) (fun (q35 : ¬ (1 ≠ 0)) => by exfalso; omega)
                                  refine wi_iconst (n := 0) (nx := 253) (r1 := 0) (r2 := 0) (r3 := 0) rfl ?_
                                  refine wi_zreturn (nx := 254) (r1 := 0) (r2 := 0) (r3 := 0) rfl rfl (by omega) ?_
                                  exact k 0 (by omega)
                              ·
                                refine wi_aload_n (i := 0) (x := 236) (nx := 176) (r1 := 0) (r2 := 0) (r3 := 0) rfl rfl ?_
                                refine wr_gi1 (k0 := 236) (x := h 236 12) (nx := 179) (r1 := 11) (r2 := 12) (r3 := 0) rfl rfl (by decide) rfl ⟨rfl, rfl⟩ rfl rfl ?_
                                refine wi_ldc2_w (e := 754996) (nx := 182) (r1 := 754996) (r2 := 0) (r3 := 0) rfl (by decide) ?_
                                refine wi_lcmp (a := h 236 12) (e := 754996) (nx := 183) (r1 := 0) (r2 := 0) (r3 := 0) rfl (by omega) (by omega) (fun r33 (fr33 : (r33 = -1 ∧ (h 236 12) < 754996) ∨ (r33 = 0 ∧ (h 236 12) = 754996) ∨ (r33 = 1 ∧ 754996 < (h 236 12))) => ?_)
                                refine wi_if (cd := .eq) (nx := 186) (r1 := 230) (r2 := 0) (r3 := 0) rfl (by omega) (fun (q34 : r33 = 0) => ?_) (fun (q34 : ¬ (r33 = 0)) => ?_)
                                ·
                                  refine wi_iconst (n := 1) (nx := 231) (r1 := 0) (r2 := 0) (r3 := 0) rfl ?_
                                  refine wi_goto (nx := 234) (r1 := 235) (r2 := 0) (r3 := 0) rfl ?_
                                  refine wi_istore_n (i := 1) (e := 1) (lo2 := [(1, vi 1), (0, .ref 236)]) (nx := 236) (r1 := 0) (r2 := 0) (r3 := 0) rfl rfl ?_
                                  refine wi_aload_n (i := 0) (x := 236) (nx := 237) (r1 := 0) (r2 := 0) (r3 := 0) rfl rfl ?_
                                  have b35 := gi_b (lo := 0) (hi := 4) g 236 6 rfl
                                  refine wr_gi0 (k0 := 236) (x := h 236 6) (nx := 240) (r1 := 11) (r2 := 6) (r3 := 0) rfl rfl (by decide) rfl ⟨rfl, rfl⟩ rfl rfl ?_
                                  refine wi_iconst (n := 1) (nx := 241) (r1 := 0) (r2 := 0) (r3 := 0) rfl ?_
                                  refine wi_icmp (cd := .ne) (nx := 244) (r1 := 252) (r2 := 0) (r3 := 0) rfl (by omega) (by omega) (fun (q36 : (h 236 6) ≠ 1) => ?_) (fun (q36 : ¬ ((h 236 6) ≠ 1)) => ?_)
                                  ·
                                    refine wi_iconst (n := 0) (nx := 253) (r1 := 0) (r2 := 0) (r3 := 0) rfl ?_
                                    refine wi_zreturn (nx := 254) (r1 := 0) (r2 := 0) (r3 := 0) rfl rfl (by omega) ?_
                                    exact k 0 (by omega)
                                  ·
                                    refine wi_iload_n (i := 1) (e := 1) (nx := 245) (r1 := 0) (r2 := 0) (r3 := 0) rfl rfl ?_
                                    refine wi_if (cd := .ne) (nx := 248) (r1 := 252) (r2 := 0) (r3 := 0) rfl (by omega) (fun (q37 : 1 ≠ 0) => ?_) (fun (q37 : ¬ (1 ≠ 0)) => by exfalso; omega)
                                    refine wi_iconst (n := 0) (nx := 253) (r1 := 0) (r2 := 0) (r3 := 0) rfl ?_
                                    refine wi_zreturn (nx := 254) (r1 := 0) (r2 := 0) (r3 := 0) rfl rfl (by omega) ?_
                                    exact k 0 (by omega)
                                ·
                                  refine wi_aload_n (i := 0) (x := 236) (nx := 187) (r1 := 0) (r2 := 0) (r3 := 0) rfl rfl ?_
                                  refine wr_gi1 (k0 := 236) (x := h 236 12) (nx := 190) (r1 := 11) (r2 := 12) (r3 := 0) rfl rfl (by decide) rfl ⟨rfl, rfl⟩ rfl rfl ?_
                                  refine wi_ldc2_w (e := 643248) (nx := 193) (r1 := 643248) (r2 := 0) (r3 := 0) rfl (by decide) ?_
                                  refine wi_lcmp (a := h 236 12) (e := 643248) (nx := 194) (r1 := 0) (r2 := 0) (r3 := 0) rfl (by omega) (by omega) (fun r35 (fr35 : (r35 = -1 ∧ (h 236 12) < 643248) ∨ (r35 = 0 ∧ (h 236 12) = 643248) ∨ (r35 = 1 ∧ 643248 < (h 236 12))) => ?_)
                                  refine wi_if (cd := .eq) (nx := 197) (r1 := 230) (r2 := 0) (r3 := 0) rfl (by omega) (fun (q36 : r35 = 0) => ?_) (fun (q36 : ¬ (r35 = 0)) => ?_)
                                  ·
                                    refine wi_iconst (n := 1) (nx := 231) (r1 := 0) (r2 := 0) (r3 := 0) rfl ?_
                                    refine wi_goto (nx := 234) (r1 := 235) (r2 := 0) (r3 := 0) rfl ?_
                                    refine wi_istore_n (i := 1) (e := 1) (lo2 := [(1, vi 1), (0, .ref 236)]) (nx := 236) (r1 := 0) (r2 := 0) (r3 := 0) rfl rfl ?_
                                    refine wi_aload_n (i := 0) (x := 236) (nx := 237) (r1 := 0) (r2 := 0) (r3 := 0) rfl rfl ?_
                                    have b37 := gi_b (lo := 0) (hi := 4) g 236 6 rfl
                                    refine wr_gi0 (k0 := 236) (x := h 236 6) (nx := 240) (r1 := 11) (r2 := 6) (r3 := 0) rfl rfl (by decide) rfl ⟨rfl, rfl⟩ rfl rfl ?_
                                    refine wi_iconst (n := 1) (nx := 241) (r1 := 0) (r2 := 0) (r3 := 0) rfl ?_
                                    refine wi_icmp (cd := .ne) (nx := 244) (r1 := 252) (r2 := 0) (r3 := 0) rfl (by omega) (by omega) (fun (q38 : (h 236 6) ≠ 1) => ?_) (fun (q38 : ¬ ((h 236 6) ≠ 1)) => ?_)
                                    ·
                                      refine wi_iconst (n := 0) (nx := 253) (r1 := 0) (r2 := 0) (r3 := 0) rfl ?_
                                      refine wi_zreturn (nx := 254) (r1 := 0) (r2 := 0) (r3 := 0) rfl rfl (by omega) ?_
                                      exact k 0 (by omega)
                                    ·
                                      refine wi_iload_n (i := 1) (e := 1) (nx := 245) (r1 := 0) (r2 := 0) (r3 := 0) rfl rfl ?_
                                      refine wi_if (cd := .ne) (nx := 248) (r1 := 252) (r2 := 0) (r3 := 0) rfl (by omega) (fun (q39 : 1 ≠ 0) => ?_) (fun (q39 : ¬ (1 ≠ 0)) => by exfalso; omega)
                                      refine wi_iconst (n := 0) (nx := 253) (r1 := 0) (r2 := 0) (r3 := 0) rfl ?_
                                      refine wi_zreturn (nx := 254) (r1 := 0) (r2 := 0) (r3 := 0) rfl rfl (by omega) ?_
                                      exact k 0 (by omega)
                                  ·
                                    refine wi_aload_n (i := 0) (x := 236) (nx := 198) (r1 := 0) (r2 := 0) (r3 := 0) rfl rfl ?_
                                    refine wr_gi1 (k0 := 236) (x := h 236 12) (nx := 201) (r1 := 11) (r2 := 12) (r3 := 0) rfl rfl (by decide) rfl ⟨rfl, rfl⟩ rfl rfl ?_
                                    refine wi_ldc2_w (e := 719731748) (nx := 204) (r1 := 719731748) (r2 := 0) (r3 := 0) rfl (by decide) ?_
                                    refine wi_lcmp (a := h 236 12) (e := 719731748) (nx := 205) (r1 := 0) (r2 := 0) (r3 := 0) rfl (by omega) (by omega) (fun r37 (fr37 : (r37 = -1 ∧ (h 236 12) < 719731748) ∨ (r37 = 0 ∧ (h 236 12) = 719731748) ∨ (r37 = 1 ∧ 719731748 < (h 236 12))) => ?_)
                                    refine wi_if (cd := .eq) (nx := 208) (r1 := 230) (r2 := 0) (r3 := 0) rfl (by omega) (fun (q38 : r37 = 0) => ?_) (fun (q38 : ¬ (r37 = 0)) => ?_)
                                    ·
                                      refine wi_iconst (n := 1) (nx := 231) (r1 := 0) (r2 := 0) (r3 := 0) rfl ?_
                                      refine wi_goto (nx := 234) (r1 := 235) (r2 := 0) (r3 := 0) rfl ?_
                                      refine wi_istore_n (i := 1) (e := 1) (lo2 := [(1, vi 1), (0, .ref 236)]) (nx := 236) (r1 := 0) (r2 := 0) (r3 := 0) rfl rfl ?_
                                      refine wi_aload_n (i := 0) (x := 236) (nx := 237) (r1 := 0) (r2 := 0) (r3 := 0) rfl rfl ?_
                                      have b39 := gi_b (lo := 0) (hi := 4) g 236 6 rfl
                                      refine wr_gi0 (k0 := 236) (x := h 236 6) (nx := 240) (r1 := 11) (r2 := 6) (r3 := 0) rfl rfl (by decide) rfl ⟨rfl, rfl⟩ rfl rfl ?_
                                      refine wi_iconst (n := 1) (nx := 241) (r1 := 0) (r2 := 0) (r3 := 0) rfl ?_
                                      refine wi_icmp (cd := .ne) (nx := 244) (r1 := 252) (r2 := 0) (r3 := 0) rfl (by omega) (by omega) (fun (q40 : (h 236 6) ≠ 1) => ?_) (fun (q40 : ¬ ((h 236 6) ≠ 1)) => ?_)
                                      ·
                                        refine wi_iconst (n := 0) (nx := 253) (r1 := 0) (r2 := 0) (r3 := 0) rfl ?_
                                        refine wi_zreturn (nx := 254) (r1 := 0) (r2 := 0) (r3 := 0) rfl rfl (by omega) ?_
                                        exact k 0 (by omega)
                                      ·
                                        refine wi_iload_n (i := 1) (e := 1) (nx := 245) (r1 := 0) (r2 := 0) (r3 := 0) rfl rfl ?_
                                        refine wi_if (cd := .ne) (nx := 248) (r1 := 252) (r2 := 0) (r3 := 0) rfl (by omega) (fun (q41 : 1 ≠ 0) => ?_) (fun (q41 : ¬ (1 ≠ 0)) => by exfalso; omega)
                                        refine wi_iconst (n := 0) (nx := 253) (r1 := 0) (r2 := 0) (r3 := 0) rfl ?_
                                        refine wi_zreturn (nx := 254) (r1 := 0) (r2 := 0) (r3 := 0) rfl rfl (by omega) ?_
                                        exact k 0 (by omega)
                                    ·
                                      refine wi_aload_n (i := 0) (x := 236) (nx := 209) (r1 := 0) (r2 := 0) (r3 := 0) rfl rfl ?_
                                      refine wr_gi1 (k0 := 236) (x := h 236 12) (nx := 212) (r1 := 11) (r2 := 12) (r3 := 0) rfl rfl (by decide) rfl ⟨rfl, rfl⟩ rfl rfl ?_
                                      refine wi_ldc2_w (e := 646192) (nx := 215) (r1 := 646192) (r2 := 0) (r3 := 0) rfl (by decide) ?_
                                      refine wi_lcmp (a := h 236 12) (e := 646192) (nx := 216) (r1 := 0) (r2 := 0) (r3 := 0) rfl (by omega) (by omega) (fun r39 (fr39 : (r39 = -1 ∧ (h 236 12) < 646192) ∨ (r39 = 0 ∧ (h 236 12) = 646192) ∨ (r39 = 1 ∧ 646192 < (h 236 12))) => ?_)
                                      refine wi_if (cd := .eq) (nx := 219) (r1 := 230) (r2 := 0) (r3 := 0) rfl (by omega) (fun (q40 : r39 = 0) => ?_) (fun (q40 : ¬ (r39 = 0)) => ?_)
                                      ·
                                        refine wi_iconst (n := 1) (nx := 231) (r1 := 0) (r2 := 0) (r3 := 0) rfl ?_
                                        refine wi_goto (nx := 234) (r1 := 235) (r2 := 0) (r3 := 0) rfl ?_
                                        refine wi_istore_n (i := 1) (e := 1) (lo2 := [(1, vi 1), (0, .ref 236)]) (nx := 236) (r1 := 0) (r2 := 0) (r3 := 0) rfl rfl ?_
                                        refine wi_aload_n (i := 0) (x := 236) (nx := 237) (r1 := 0) (r2 := 0) (r3 := 0) rfl rfl ?_
                                        have b41 := gi_b (lo := 0) (hi := 4) g 236 6 rfl
                                        refine wr_gi0 (k0 := 236) (x := h 236 6) (nx := 240) (r1 := 11) (r2 := 6) (r3 := 0) rfl rfl (by decide) rfl ⟨rfl, rfl⟩ rfl rfl ?_
                                        refine wi_iconst (n := 1) (nx := 241) (r1 := 0) (r2 := 0) (r3 := 0) rfl ?_
                                        refine wi_icmp (cd := .ne) (nx := 244) (r1 := 252) (r2 := 0) (r3 := 0) rfl (by omega) (by omega) (fun (q42 : (h 236 6) ≠ 1) => ?_) (fun (q42 : ¬ ((h 236 6) ≠ 1)) => ?_)
                                        ·
                                          refine wi_iconst (n := 0) (nx := 253) (r1 := 0) (r2 := 0) (r3 := 0) rfl ?_
                                          refine wi_zreturn (nx := 254) (r1 := 0) (r2 := 0) (r3 := 0) rfl rfl (by omega) ?_
                                          exact k 0 (by omega)
                                        ·
                                          refine wi_iload_n (i := 1) (e := 1) (nx := 245) (r1 := 0) (r2 := 0) (r3 := 0) rfl rfl ?_
                                          refine wi_if (cd := .ne) (nx := 248) (r1 := 252) (r2 := 0) (r3 := 0) rfl (by omega) (fun (q43 : 1 ≠ 0) => ?_) (fun (q43 : ¬ (1 ≠ 0)) => by exfalso; omega)
                                          refine wi_iconst (n := 0) (nx := 253) (r1 := 0) (r2 := 0) (r3 := 0) rfl ?_
                                          refine wi_zreturn (nx := 254) (r1 := 0) (r2 := 0) (r3 := 0) rfl rfl (by omega) ?_
                                          exact k 0 (by omega)
                                      ·
                                        refine wi_aload_n (i := 0) (x := 236) (nx := 220) (r1 := 0) (r2 := 0) (r3 := 0) rfl rfl ?_
                                        refine wr_gi1 (k0 := 236) (x := h 236 12) (nx := 223) (r1 := 11) (r2 := 12) (r3 := 0) rfl rfl (by decide) rfl ⟨rfl, rfl⟩ rfl rfl ?_
                                        refine wi_ldc2_w (e := 609752116) (nx := 226) (r1 := 609752116) (r2 := 0) (r3 := 0) rfl (by decide) ?_
                                        refine wi_lcmp (a := h 236 12) (e := 609752116) (nx := 227) (r1 := 0) (r2 := 0) (r3 := 0) rfl (by omega) (by omega) (fun r41 (fr41 : (r41 = -1 ∧ (h 236 12) < 609752116) ∨ (r41 = 0 ∧ (h 236 12) = 609752116) ∨ (r41 = 1 ∧ 609752116 < (h 236 12))) => ?_)
                                        refine wi_if (cd := .ne) (nx := 230) (r1 := 234) (r2 := 0) (r3 := 0) rfl (by omega) (fun (q42 : r41 ≠ 0) => ?_) (fun (q42 : ¬ (r41 ≠ 0)) => ?_)
                                        ·
                                          refine wi_iconst (n := 0) (nx := 235) (r1 := 0) (r2 := 0) (r3 := 0) rfl ?_
                                          refine wi_istore_n (i := 1) (e := 0) (lo2 := [(1, vi 0), (0, .ref 236)]) (nx := 236) (r1 := 0) (r2 := 0) (r3 := 0) rfl rfl ?_
                                          refine wi_aload_n (i := 0) (x := 236) (nx := 237) (r1 := 0) (r2 := 0) (r3 := 0) rfl rfl ?_
                                          have b43 := gi_b (lo := 0) (hi := 4) g 236 6 rfl
                                          refine wr_gi0 (k0 := 236) (x := h 236 6) (nx := 240) (r1 := 11) (r2 := 6) (r3 := 0) rfl rfl (by decide) rfl ⟨rfl, rfl⟩ rfl rfl ?_
                                          refine wi_iconst (n := 1) (nx := 241) (r1 := 0) (r2 := 0) (r3 := 0) rfl ?_
                                          refine wi_icmp (cd := .ne) (nx := 244) (r1 := 252) (r2 := 0) (r3 := 0) rfl (by omega) (by omega) (fun (q44 : (h 236 6) ≠ 1) => ?_) (fun (q44 : ¬ ((h 236 6) ≠ 1)) => ?_)
                                          ·
                                            refine wi_iconst (n := 0) (nx := 253) (r1 := 0) (r2 := 0) (r3 := 0) rfl ?_
                                            refine wi_zreturn (nx := 254) (r1 := 0) (r2 := 0) (r3 := 0) rfl rfl (by omega) ?_
                                            exact k 0 (by omega)
                                          ·
                                            refine wi_iload_n (i := 1) (e := 0) (nx := 245) (r1 := 0) (r2 := 0) (r3 := 0) rfl rfl ?_
                                            refine wi_if (cd := .ne) (nx := 248) (r1 := 252) (r2 := 0) (r3 := 0) rfl (by omega) (fun (q45 : 0 ≠ 0) => by exfalso; omega) (fun (q45 : ¬ (0 ≠ 0)) => ?_)
                                            refine wi_iconst (n := 1) (nx := 249) (r1 := 0) (r2 := 0) (r3 := 0) rfl ?_
                                            refine wi_goto (nx := 252) (r1 := 253) (r2 := 0) (r3 := 0) rfl ?_
                                            refine wi_zreturn (nx := 254) (r1 := 0) (r2 := 0) (r3 := 0) rfl rfl (by omega) ?_
                                            exact k 1 (by omega)
                                        ·
                                          refine wi_iconst (n := 1) (nx := 231) (r1 := 0) (r2 := 0) (r3 := 0) rfl ?_
                                          refine wi_goto (nx := 234) (r1 := 235) (r2 := 0) (r3 := 0) rfl ?_
                                          refine wi_istore_n (i := 1) (e := 1) (lo2 := [(1, vi 1), (0, .ref 236)]) (nx := 236) (r1 := 0) (r2 := 0) (r3 := 0) rfl rfl ?_
                                          refine wi_aload_n (i := 0) (x := 236) (nx := 237) (r1 := 0) (r2 := 0) (r3 := 0) rfl rfl ?_
                                          have b43 := gi_b (lo := 0) (hi := 4) g 236 6 rfl
                                          refine wr_gi0 (k0 := 236) (x := h 236 6) (nx := 240) (r1 := 11) (r2 := 6) (r3 := 0) rfl rfl (by decide) rfl ⟨rfl, rfl⟩ rfl rfl ?_
                                          refine wi_iconst (n := 1) (nx := 241) (r1 := 0) (r2 := 0) (r3 := 0) rfl ?_
                                          refine wi_icmp (cd := .ne) (nx := 244) (r1 := 252) (r2 := 0) (r3 := 0) rfl (by omega) (by omega) (fun (q44 : (h 236 6) ≠ 1) => ?_) (fun (q44 : ¬ ((h 236 6) ≠ 1)) => ?_)
                                          ·
                                            refine wi_iconst (n := 0) (nx := 253) (r1 := 0) (r2 := 0) (r3 := 0) rfl ?_
                                            refine wi_zreturn (nx := 254) (r1 := 0) (r2 := 0) (r3 := 0) rfl rfl (by omega) ?_
                                            exact k 0 (by omega)
                                          ·
                                            refine wi_iload_n (i := 1) (e := 1) (nx := 245) (r1 := 0) (r2 := 0) (r3 := 0) rfl rfl ?_
                                            refine wi_if (cd := .ne) (nx := 248) (r1 := 252) (r2 := 0) (r3 := 0) rfl (by omega) (fun (q45 : 1 ≠ 0) => ?_) (fun (q45 : ¬ (1 ≠ 0)) => by exfalso; omega)
                                            refine wi_iconst (n := 0) (nx := 253) (r1 := 0) (r2 := 0) (r3 := 0) rfl ?_
                                            refine wi_zreturn (nx := 254) (r1 := 0) (r2 := 0) (r3 := 0) rfl rfl (by omega) ?_
                                            exact k 0 (by omega)
                    ·
                      refine wi_iconst (n := 1) (nx := 111) (r1 := 0) (r2 := 0) (r3 := 0) rfl ?_
                      refine wi_goto (nx := 114) (r1 := 115) (r2 := 0) (r3 := 0) rfl ?_
                      refine wi_istore_n (i := 1) (e := 1) (lo2 := [(1, vi 1), (0, .ref 236)]) (nx := 116) (r1 := 0) (r2 := 0) (r3 := 0) rfl rfl ?_
                      refine wi_iload_n (i := 1) (e := 1) (nx := 117) (r1 := 0) (r2 := 0) (r3 := 0) rfl rfl ?_
                      refine wi_if (cd := .ne) (nx := 120) (r1 := 230) (r2 := 0) (r3 := 0) rfl (by omega) (fun (q22 : 1 ≠ 0) => ?_) (fun (q22 : ¬ (1 ≠ 0)) => by exfalso; omega)
                      refine wi_iconst (n := 1) (nx := 231) (r1 := 0) (r2 := 0) (r3 := 0) rfl ?_
                      refine wi_goto (nx := 234) (r1 := 235) (r2 := 0) (r3 := 0) rfl ?_
                      refine wi_istore_n (i := 1) (e := 1) (lo2 := [(1, vi 1), (0, .ref 236)]) (nx := 236) (r1 := 0) (r2 := 0) (r3 := 0) rfl rfl ?_
                      refine wi_aload_n (i := 0) (x := 236) (nx := 237) (r1 := 0) (r2 := 0) (r3 := 0) rfl rfl ?_
                      have b23 := gi_b (lo := 0) (hi := 4) g 236 6 rfl
                      refine wr_gi0 (k0 := 236) (x := h 236 6) (nx := 240) (r1 := 11) (r2 := 6) (r3 := 0) rfl rfl (by decide) rfl ⟨rfl, rfl⟩ rfl rfl ?_
                      refine wi_iconst (n := 1) (nx := 241) (r1 := 0) (r2 := 0) (r3 := 0) rfl ?_
                      refine wi_icmp (cd := .ne) (nx := 244) (r1 := 252) (r2 := 0) (r3 := 0) rfl (by omega) (by omega) (fun (q24 : (h 236 6) ≠ 1) => ?_) (fun (q24 : ¬ ((h 236 6) ≠ 1)) => ?_)
                      ·
                        refine wi_iconst (n := 0) (nx := 253) (r1 := 0) (r2 := 0) (r3 := 0) rfl ?_
                        refine wi_zreturn (nx := 254) (r1 := 0) (r2 := 0) (r3 := 0) rfl rfl (by omega) ?_
                        exact k 0 (by omega)
                      ·
                        refine wi_iload_n (i := 1) (e := 1) (nx := 245) (r1 := 0) (r2 := 0) (r3 := 0) rfl rfl ?_
                        refine wi_if (cd := .ne) (nx := 248) (r1 := 252) (r2 := 0) (r3 := 0) rfl (by omega) (fun (q25 : 1 ≠ 0) => ?_) (fun (q25 : ¬ (1 ≠ 0)) => by exfalso; omega)
                        refine wi_iconst (n := 0) (nx := 253) (r1 := 0) (r2 := 0) (r3 := 0) rfl ?_
                        refine wi_zreturn (nx := 254) (r1 := 0) (r2 := 0) (r3 := 0) rfl rfl (by omega) ?_
                        exact k 0 (by omega)
-- method 225: Model.nameHere()V
set_option maxHeartbeats 100000000 in
theorem ct_225_236 {L : Nat} {xs : Nat → Int32} {d b c : Nat} {h : hp} {cr : Nat → Nat → Option Nat} {Q : hp_Q} (hcr : CR cr)  (g : GI h)    (k : ∀ (h2 : hp) , GI h2 → FR [(236, 236, some (8, 8)), (236, 236, some (9, 9))] h h2 → (1 ≤ h2 236 8 ∨ h 236 8 = 0) → Q (.inl none) (hp_w h2 cr) b c) : wp (md_xa (L, xs)) (d + 1) 225 (0, [(0, .ref 236)], [], hp_w h cr, b, c) Q := by
  have F0 : FR [(236, 236, some (8, 8)), (236, 236, some (9, 9))] h h := FR.refl
  refine wi_aload_n (i := 0) (x := 236) (nx := 1) (r1 := 0) (r2 := 0) (r3 := 0) rfl rfl ?_
  refine wr_V (k0 := 236) (rest := []) (as := [.ref 236]) (nx := 4) (r1 := 219) (r2 := 0) (r3 := 11) rfl rfl rfl (of_decide_eq_true rfl) rfl rfl (by decide) rfl rfl (of_decide_eq_true rfl) (of_decide_eq_true rfl) ?_
  refine wi_aload_n (i := 0) (x := 236) (nx := 1) (r1 := 0) (r2 := 0) (r3 := 0) rfl rfl ?_
  have b1 := gi_b (lo := 0) (hi := 5) g 236 8 rfl
  refine wr_gi0 (k0 := 236) (x := h 236 8) (nx := 4) (r1 := 11) (r2 := 8) (r3 := 0) rfl rfl (by decide) rfl ⟨rfl, rfl⟩ rfl rfl ?_
  refine wi_if (cd := .ne) (nx := 7) (r1 := 11) (r2 := 0) (r3 := 0) rfl (by omega) (fun (q2 : (h 236 8) ≠ 0) => ?_) (fun (q2 : ¬ ((h 236 8) ≠ 0)) => ?_)
  ·
    refine wi_iconst (n := 0) (nx := 12) (r1 := 0) (r2 := 0) (r3 := 0) rfl ?_
    refine wi_zreturn (nx := 13) (r1 := 0) (r2 := 0) (r3 := 0) rfl rfl (by omega) ?_
    refine wk_i ?_
    refine wi_if (cd := .eq) (nx := 7) (r1 := 19) (r2 := 0) (r3 := 0) rfl (by omega) (fun (q3 : 0 = 0) => ?_) (fun (q3 : ¬ (0 = 0)) => by exfalso; omega)
    refine wi_return (nx := 20) (r1 := 0) (r2 := 0) (r3 := 0) rfl rfl ?_
    exact k h g F0 (show 1 ≤ (h 236 8) ∨ (h 236 8) = 0 by omega)
  ·
    refine wi_iconst (n := 1) (nx := 8) (r1 := 0) (r2 := 0) (r3 := 0) rfl ?_
    refine wi_goto (nx := 11) (r1 := 12) (r2 := 0) (r3 := 0) rfl ?_
    refine wi_zreturn (nx := 13) (r1 := 0) (r2 := 0) (r3 := 0) rfl rfl (by omega) ?_
    refine wk_i ?_
    refine wi_if (cd := .eq) (nx := 7) (r1 := 19) (r2 := 0) (r3 := 0) rfl (by omega) (fun (q3 : 1 = 0) => by exfalso; omega) (fun (q3 : ¬ (1 = 0)) => ?_)
    refine wi_aload_n (i := 0) (x := 236) (nx := 8) (r1 := 0) (r2 := 0) (r3 := 0) rfl rfl ?_
    refine wr_V (k0 := 236) (rest := []) (as := [.ref 236]) (nx := 11) (r1 := 226) (r2 := 0) (r3 := 11) rfl rfl rfl (of_decide_eq_true rfl) rfl rfl (by decide) rfl rfl (of_decide_eq_true rfl) (of_decide_eq_true rfl) ?_
    refine ct_226_236 hcr  g    (fun z5  (fz5 : 0 ≤ z5 ∧ z5 ≤ 1) => ?_)
    refine wk_i ?_
    refine wi_if (cd := .ne) (nx := 14) (r1 := 19) (r2 := 0) (r3 := 0) rfl (by omega) (fun (q6 : z5 ≠ 0) => ?_) (fun (q6 : ¬ (z5 ≠ 0)) => ?_)
    ·
      refine wi_return (nx := 20) (r1 := 0) (r2 := 0) (r3 := 0) rfl rfl ?_
      exact k h g F0 (show 1 ≤ (h 236 8) ∨ (h 236 8) = 0 by omega)
    ·
      refine wi_aload_n (i := 0) (x := 236) (nx := 15) (r1 := 0) (r2 := 0) (r3 := 0) rfl rfl ?_
      refine wi_iconst (n := 1) (nx := 16) (r1 := 0) (r2 := 0) (r3 := 0) rfl ?_
      refine wr_V (k0 := 236) (rest := []) (as := [.ref 236, vi 1]) (nx := 19) (r1 := 224) (r2 := 1) (r3 := 11) rfl rfl rfl (of_decide_eq_true rfl) rfl rfl (by decide) rfl rfl (of_decide_eq_true rfl) (of_decide_eq_true rfl) ?_
      refine ct_224_236 hcr  g 1 (by omega)  (fun h7 g7 u7 (p7_0 : 1 ≤ (h7 236 8)) => ?_)
      have F8 := F0.then (by decide +kernel) u7
      have b9 := gi_b (lo := 0) (hi := 5) g7 236 8 rfl
      refine wk_n ?_
      refine wi_return (nx := 20) (r1 := 0) (r2 := 0) (r3 := 0) rfl rfl ?_
      exact k h7 g7 F8 (show 1 ≤ (h7 236 8) ∨ (h 236 8) = 0 by omega)
-- method 227: Model.named()I
set_option maxHeartbeats 100000000 in
theorem ct_227_236 {L : Nat} {xs : Nat → Int32} {d b c : Nat} {h : hp} {cr : Nat → Nat → Option Nat} {Q : hp_Q} (hcr : CR cr)  (g : GI h)    (k : ∀ (z0 : Int), (0 ≤ z0 ∧ z0 ≤ 5) → (z0 ≤ h 239 0) → Q (.inl (some (vi z0))) (hp_w h cr) b c) : wp (md_xa (L, xs)) d 227 (0, [(0, .ref 236)], [], hp_w h cr, b, c) Q := by
  have F0 : FR [] h h := FR.refl
  refine wi_iconst (n := 0) (nx := 1) (r1 := 0) (r2 := 0) (r3 := 0) rfl ?_
  refine wi_istore_n (i := 1) (e := 0) (lo2 := [(1, vi 0), (0, .ref 236)]) (nx := 2) (r1 := 0) (r2 := 0) (r3 := 0) rfl rfl ?_
  refine wp.lo (lo := [(0, .ref 236), (1, vi 0)]) ⟨rfl, rfl, trivial⟩ rfl ?_
  refine wl_1 (fun x1 h2 => h = h2 ∧ ((0 ≤ x1 ∧ x1 ≤ 5))) (fun x1 h2 => ((5 : Int) + 1 - x1).toNat) (fun x1 h2 => (2, [(0, .ref 236), (1, vi x1)], [], hp_w h2 cr, b, c)) ?_ 0 h ⟨rfl, (show (0 ≤ 0 ∧ 0 ≤ 5) by omega)⟩
  intro x1 h2 ⟨e2, f2⟩ I2
  subst e2
  refine wi_iload_n (i := 1) (e := x1) (nx := 3) (r1 := 0) (r2 := 0) (r3 := 0) rfl rfl ?_
  refine wi_aload_n (i := 0) (x := 236) (nx := 4) (r1 := 0) (r2 := 0) (r3 := 0) rfl rfl ?_
  refine wr_gr (k0 := 236) (x := 239) (nx := 7) (r1 := 11) (r2 := 14) (r3 := 0) rfl rfl (by decide) rfl ⟨rfl, rfl⟩ rfl ?_
  refine wi_iconst (n := 0) (nx := 8) (r1 := 0) (r2 := 0) (r3 := 0) rfl ?_
  have b4 := gi_b (lo := 0) (hi := 5) g 239 0 rfl
  refine wr_ia (k0 := 239) (a := 0) (f := 0) (x := h 239 0) (nx := 9) (r1 := 0) (r2 := 0) (r3 := 0) rfl (by decide) rfl (by omega) (by omega) (by decide) rfl ?_
  refine wi_icmp (cd := .ge) (nx := 12) (r1 := 32) (r2 := 0) (r3 := 0) rfl (by omega) (by omega) (fun (q5 : (h 239 0) ≤ x1) => ?_) (fun (q5 : ¬ ((h 239 0) ≤ x1)) => ?_)
  ·
    refine wi_iload_n (i := 1) (e := x1) (nx := 33) (r1 := 0) (r2 := 0) (r3 := 0) rfl rfl ?_
    refine wi_ireturn (nx := 34) (r1 := 0) (r2 := 0) (r3 := 0) rfl rfl ?_
    exact k x1 (by omega) (show x1 ≤ (h 239 0) by omega)
  ·
    refine wi_aload_n (i := 0) (x := 236) (nx := 13) (r1 := 0) (r2 := 0) (r3 := 0) rfl rfl ?_
    refine wr_gr (k0 := 236) (x := 244) (nx := 16) (r1 := 11) (r2 := 19) (r3 := 0) rfl rfl (by decide) rfl ⟨rfl, rfl⟩ rfl ?_
    refine wi_iload_n (i := 1) (e := x1) (nx := 17) (r1 := 0) (r2 := 0) (r3 := 0) rfl rfl ?_
    obtain ⟨i6, ei6⟩ : ∃ q : Nat, x1 = (q : Int) := ⟨(x1).toNat, by omega⟩
    have b7 := gi_b (lo := -9223372036854775808) (hi := 9223372036854775807) g 244 i6 rfl
    refine wr_la (k0 := 244) (a := x1) (f := i6) (x := h 244 i6) (nx := 18) (r1 := 0) (r2 := 0) (r3 := 0) rfl (by decide) rfl (by omega) (by omega) (by decide) rfl ?_
    refine wi_aload_n (i := 0) (x := 236) (nx := 19) (r1 := 0) (r2 := 0) (r3 := 0) rfl rfl ?_
    have b8 := gi_b (lo := -9223372036854775808) (hi := 9223372036854775807) g 236 12 rfl
    refine wr_gi1 (k0 := 236) (x := h 236 12) (nx := 22) (r1 := 11) (r2 := 12) (r3 := 0) rfl rfl (by decide) rfl ⟨rfl, rfl⟩ rfl rfl ?_
    refine wi_lcmp (a := h 244 i6) (e := h 236 12) (nx := 23) (r1 := 0) (r2 := 0) (r3 := 0) rfl (by omega) (by omega) (fun r9 (fr9 : (r9 = -1 ∧ (h 244 i6) < (h 236 12)) ∨ (r9 = 0 ∧ (h 244 i6) = (h 236 12)) ∨ (r9 = 1 ∧ (h 236 12) < (h 244 i6))) => ?_)
    refine wi_if (cd := .eq) (nx := 26) (r1 := 32) (r2 := 0) (r3 := 0) rfl (by omega) (fun (q10 : r9 = 0) => ?_) (fun (q10 : ¬ (r9 = 0)) => ?_)
    ·
      refine wi_iload_n (i := 1) (e := x1) (nx := 33) (r1 := 0) (r2 := 0) (r3 := 0) rfl rfl ?_
      refine wi_ireturn (nx := 34) (r1 := 0) (r2 := 0) (r3 := 0) rfl rfl ?_
      exact k x1 (by omega) (show x1 ≤ (h 239 0) by omega)
    ·
      refine wr_iinc (i := 1) (n := 1) (v := x1) (fun e11 => [(1, vi e11), (0, .ref 236)]) (nx := 29) (r1 := 0) (r2 := 0) (r3 := 0) rfl rfl (fun _ => rfl) (fun e11 (fe11 : e11 = x1 + 1) => ?_)
      refine wi_goto (nx := 32) (r1 := 2) (r2 := 0) (r3 := 0) rfl ?_
      refine wp.lo (lo := [(0, .ref 236), (1, vi e11)]) ⟨rfl, rfl, trivial⟩ rfl ?_
      exact I2 e11 h ⟨rfl, (show (0 ≤ e11 ∧ e11 ≤ 5) by omega)⟩ (show ((5 : Int) + 1 - e11).toNat < ((5 : Int) + 1 - x1).toNat by omega)
-- method 233: Model.readsCar()V
set_option maxHeartbeats 100000000 in
theorem ct_233_236 {L : Nat} {xs : Nat → Int32} {d b c : Nat} {h : hp} {cr : Nat → Nat → Option Nat} {Q : hp_Q} (hcr : CR cr)  (g : GI h)   (pp0 : h 236 4 ≤ h 236 3) (pp1 : h 236 8 = 0) (pp2 : h 239 5 ≤ 9) (pp3 : 1 ≤ h 239 5) (pp4 : h 239 7 ≤ 3) (pp5 : h 239 15 ≤ 6) (pp6 : h 239 16 ≤ 6) (pp7 : h 239 17 ≤ 6) (pp8 : h 239 18 ≤ 6) (k : ∀ (h2 : hp) , GI h2 → FR [(236, 236, some (4, 4)), (236, 236, some (5, 5)), (236, 236, some (6, 6)), (236, 236, some (7, 7)), (236, 236, some (8, 8)), (236, 236, some (9, 9)), (236, 236, some (12, 12)), (239, 239, some (2, 2)), (239, 239, some (19, 30)), (239, 239, some (31, 42)), (239, 239, some (43, 54))] h h2 → (h 236 4 ≤ h2 236 4) → (h2 236 4 ≤ h 236 3) → (1 ≤ h2 236 8 ∨ (h2 239 5 ≤ 9 ∧ 1 ≤ h2 239 5 ∧ h2 239 7 ≤ 3 ∧ h2 239 15 ≤ 6 ∧ h2 239 16 ≤ 6 ∧ h2 239 17 ≤ 6 ∧ h2 239 18 ≤ 6)) → Q (.inl none) (hp_w h2 cr) b c) : wp (md_xa (L, xs)) (d + 5) 233 (0, [(0, .ref 236)], [], hp_w h cr, b, c) Q := by
  have F0 : FR [(236, 236, some (4, 4)), (236, 236, some (5, 5)), (236, 236, some (6, 6)), (236, 236, some (7, 7)), (236, 236, some (8, 8)), (236, 236, some (9, 9)), (236, 236, some (12, 12)), (239, 239, some (2, 2)), (239, 239, some (19, 30)), (239, 239, some (31, 42)), (239, 239, some (43, 54))] h h := FR.refl
  have b1 := gi_b (lo := 0) (hi := 800) g 236 4 rfl
  have b2 := gi_b (lo := 0) (hi := 800) g 236 3 rfl
  have b3 := gi_b (lo := 0) (hi := 5) g 236 8 rfl
  have b4 := gi_b (lo := 0) (hi := 999) g 239 5 rfl
  have b5 := gi_b (lo := 0) (hi := 999) g 239 7 rfl
  have b6 := gi_b (lo := 0) (hi := 999) g 239 15 rfl
  have b7 := gi_b (lo := 0) (hi := 999) g 239 16 rfl
  have b8 := gi_b (lo := 0) (hi := 999) g 239 17 rfl
  have b9 := gi_b (lo := 0) (hi := 999) g 239 18 rfl
  refine wi_aload_n (i := 0) (x := 236) (nx := 1) (r1 := 0) (r2 := 0) (r3 := 0) rfl rfl ?_
  refine wr_gr (k0 := 236) (x := 239) (nx := 4) (r1 := 11) (r2 := 14) (r3 := 0) rfl rfl (by decide) rfl ⟨rfl, rfl⟩ rfl ?_
  refine wi_iconst (n := 2) (nx := 5) (r1 := 0) (r2 := 0) (r3 := 0) rfl ?_
  have b10 := gi_b (lo := 0) (hi := 12) g 239 2 rfl
  refine wr_ia (k0 := 239) (a := 2) (f := 2) (x := h 239 2) (nx := 6) (r1 := 0) (r2 := 0) (r3 := 0) rfl (by decide) rfl (by omega) (by omega) (by decide) rfl ?_
  refine wi_istore_n (i := 1) (e := h 239 2) (lo2 := [(1, vi (h 239 2)), (0, .ref 236)]) (nx := 7) (r1 := 0) (r2 := 0) (r3 := 0) rfl rfl ?_
  refine wi_aload_n (i := 0) (x := 236) (nx := 8) (r1 := 0) (r2 := 0) (r3 := 0) rfl rfl ?_
  refine wi_iconst (n := 2) (nx := 9) (r1 := 0) (r2 := 0) (r3 := 0) rfl ?_
  refine wi_bipush (n := 12) (nx := 11) (r1 := 0) (r2 := 0) (r3 := 0) rfl (by decide) ?_
  refine wr_V (k0 := 236) (rest := []) (as := [.ref 236, vi 2, vi 12]) (nx := 14) (r1 := 223) (r2 := 2) (r3 := 11) rfl rfl rfl (of_decide_eq_true rfl) rfl rfl (by decide) rfl rfl (of_decide_eq_true rfl) (of_decide_eq_true rfl) ?_
  refine wi_aload_n (i := 0) (x := 236) (nx := 1) (r1 := 0) (r2 := 0) (r3 := 0) rfl rfl ?_
  refine wr_gr (k0 := 236) (x := 239) (nx := 4) (r1 := 11) (r2 := 14) (r3 := 0) rfl rfl (by decide) rfl ⟨rfl, rfl⟩ rfl ?_
  refine wi_iload_n (i := 1) (e := 2) (nx := 5) (r1 := 0) (r2 := 0) (r3 := 0) rfl rfl ?_
  refine wr_ia (k0 := 239) (a := 2) (f := 2) (x := h 239 2) (nx := 6) (r1 := 0) (r2 := 0) (r3 := 0) rfl (by decide) rfl (by omega) (by omega) (by decide) rfl ?_
  refine wi_iload_n (i := 2) (e := 12) (nx := 7) (r1 := 0) (r2 := 0) (r3 := 0) rfl rfl ?_
  refine wi_icmp (cd := .ne) (nx := 10) (r1 := 15) (r2 := 0) (r3 := 0) rfl (by omega) (by omega) (fun (q11 : (h 239 2) ≠ 12) => ?_) (fun (q11 : ¬ ((h 239 2) ≠ 12)) => ?_)
  ·
    refine wi_aload_n (i := 0) (x := 236) (nx := 16) (r1 := 0) (r2 := 0) (r3 := 0) rfl rfl ?_
    refine wr_V (k0 := 236) (rest := []) (as := [.ref 236]) (nx := 19) (r1 := 219) (r2 := 0) (r3 := 11) rfl rfl rfl (of_decide_eq_true rfl) rfl rfl (by decide) rfl rfl (of_decide_eq_true rfl) (of_decide_eq_true rfl) ?_
    refine wi_aload_n (i := 0) (x := 236) (nx := 1) (r1 := 0) (r2 := 0) (r3 := 0) rfl rfl ?_
    refine wr_gi0 (k0 := 236) (x := h 236 8) (nx := 4) (r1 := 11) (r2 := 8) (r3 := 0) rfl rfl (by decide) rfl ⟨rfl, rfl⟩ rfl rfl ?_
    refine wi_if (cd := .ne) (nx := 7) (r1 := 11) (r2 := 0) (r3 := 0) rfl (by omega) (fun (q12 : (h 236 8) ≠ 0) => by exfalso; omega) (fun (q12 : ¬ ((h 236 8) ≠ 0)) => ?_)
    refine wi_iconst (n := 1) (nx := 8) (r1 := 0) (r2 := 0) (r3 := 0) rfl ?_
    refine wi_goto (nx := 11) (r1 := 12) (r2 := 0) (r3 := 0) rfl ?_
    refine wi_zreturn (nx := 13) (r1 := 0) (r2 := 0) (r3 := 0) rfl rfl (by omega) ?_
    refine wk_i ?_
    refine wi_if (cd := .eq) (nx := 22) (r1 := 26) (r2 := 0) (r3 := 0) rfl (by omega) (fun (q13 : 1 = 0) => by exfalso; omega) (fun (q13 : ¬ (1 = 0)) => ?_)
    refine wi_aload_n (i := 0) (x := 236) (nx := 23) (r1 := 0) (r2 := 0) (r3 := 0) rfl rfl ?_
    refine wr_V (k0 := 236) (rest := []) (as := [.ref 236]) (nx := 26) (r1 := 215) (r2 := 0) (r3 := 11) rfl rfl rfl (of_decide_eq_true rfl) rfl rfl (by decide) rfl rfl (of_decide_eq_true rfl) (of_decide_eq_true rfl) ?_
    refine ct_215_236 hcr  g   (show (h 236 4) ≤ (h 236 3) by omega) (fun h14 g14 u14 (p14_0 : (h 236 4) ≤ (h14 236 4)) (p14_1 : (h14 236 4) ≤ (h 236 3)) (p14_2 : (h14 236 6) = 0 ∨ (h 236 4) + 1 ≤ (h14 236 4)) => ?_)
    have F15 := F0.then (by decide +kernel) u14
    have b16 := gi_b (lo := 0) (hi := 800) g14 236 4 rfl
    have b17 := gi_b (lo := 0) (hi := 4) g14 236 6 rfl
    refine wk_n ?_
    refine wi_aload_n (i := 0) (x := 236) (nx := 27) (r1 := 0) (r2 := 0) (r3 := 0) rfl rfl ?_
    refine wr_V (k0 := 236) (rest := []) (as := [.ref 236]) (nx := 30) (r1 := 219) (r2 := 0) (r3 := 11) rfl rfl rfl (of_decide_eq_true rfl) rfl rfl (by decide) rfl rfl (of_decide_eq_true rfl) (of_decide_eq_true rfl) ?_
    refine wi_aload_n (i := 0) (x := 236) (nx := 1) (r1 := 0) (r2 := 0) (r3 := 0) rfl rfl ?_
    refine wr_gi0 (k0 := 236) (x := h 236 8) (nx := 4) (r1 := 11) (r2 := 8) (r3 := 0) rfl rfl (by decide) rfl ⟨rfl, rfl⟩ rfl (u14 236 8 rfl) ?_
    refine wi_if (cd := .ne) (nx := 7) (r1 := 11) (r2 := 0) (r3 := 0) rfl (by omega) (fun (q18 : (h 236 8) ≠ 0) => by exfalso; omega) (fun (q18 : ¬ ((h 236 8) ≠ 0)) => ?_)
    refine wi_iconst (n := 1) (nx := 8) (r1 := 0) (r2 := 0) (r3 := 0) rfl ?_
    refine wi_goto (nx := 11) (r1 := 12) (r2 := 0) (r3 := 0) rfl ?_
    refine wi_zreturn (nx := 13) (r1 := 0) (r2 := 0) (r3 := 0) rfl rfl (by omega) ?_
    refine wk_i ?_
    refine wi_zreturn (nx := 31) (r1 := 0) (r2 := 0) (r3 := 0) rfl rfl (by omega) ?_
    refine wk_i ?_
    refine wi_if (cd := .ne) (nx := 17) (r1 := 18) (r2 := 0) (r3 := 0) rfl (by omega) (fun (q19 : 1 ≠ 0) => ?_) (fun (q19 : ¬ (1 ≠ 0)) => by exfalso; omega)
    refine wi_aload_n (i := 0) (x := 236) (nx := 19) (r1 := 0) (r2 := 0) (r3 := 0) rfl rfl ?_
    refine wr_V (k0 := 236) (rest := []) (as := [.ref 236]) (nx := 22) (r1 := 225) (r2 := 0) (r3 := 11) rfl rfl rfl (of_decide_eq_true rfl) rfl rfl (by decide) rfl rfl (of_decide_eq_true rfl) (of_decide_eq_true rfl) ?_
    refine ct_225_236 hcr  g14    (fun h20 g20 u20 (p20_0 : 1 ≤ (h20 236 8) ∨ (h14 236 8) = 0) => ?_)
    have F21 := F15.then (by decide +kernel) u20
    have b22 := gi_b (lo := 0) (hi := 5) g20 236 8 rfl
    refine wk_n ?_
    refine wi_aload_n (i := 0) (x := 236) (nx := 23) (r1 := 0) (r2 := 0) (r3 := 0) rfl rfl ?_
    refine wr_V (k0 := 236) (rest := []) (as := [.ref 236]) (nx := 26) (r1 := 227) (r2 := 0) (r3 := 11) rfl rfl rfl (of_decide_eq_true rfl) rfl rfl (by decide) rfl rfl (of_decide_eq_true rfl) (of_decide_eq_true rfl) ?_
    refine ct_227_236 hcr  g20    (fun z24  (fz24 : 0 ≤ z24 ∧ z24 ≤ 5) (p23_0 : z24 ≤ (h20 239 0)) => ?_)
    have b25 := gi_b (lo := 0) (hi := 5) g 239 0 rfl
    refine wk_i ?_
    refine wi_istore_n (i := 2) (e := z24) (lo2 := [(2, vi z24), (1, vi (h 239 2)), (0, .ref 236)]) (nx := 27) (r1 := 0) (r2 := 0) (r3 := 0) rfl rfl ?_
    refine wi_aload_n (i := 0) (x := 236) (nx := 28) (r1 := 0) (r2 := 0) (r3 := 0) rfl rfl ?_
    refine wr_V (k0 := 236) (rest := []) (as := [.ref 236]) (nx := 31) (r1 := 219) (r2 := 0) (r3 := 11) rfl rfl rfl (of_decide_eq_true rfl) rfl rfl (by decide) rfl rfl (of_decide_eq_true rfl) (of_decide_eq_true rfl) ?_
    refine wi_aload_n (i := 0) (x := 236) (nx := 1) (r1 := 0) (r2 := 0) (r3 := 0) rfl rfl ?_
    refine wr_gi0 (k0 := 236) (x := h20 236 8) (nx := 4) (r1 := 11) (r2 := 8) (r3 := 0) rfl rfl (by decide) rfl ⟨rfl, rfl⟩ rfl rfl ?_
    refine wi_if (cd := .ne) (nx := 7) (r1 := 11) (r2 := 0) (r3 := 0) rfl (by omega) (fun (q26 : (h20 236 8) ≠ 0) => ?_) (fun (q26 : ¬ ((h20 236 8) ≠ 0)) => ?_)
    ·
      refine wi_iconst (n := 0) (nx := 12) (r1 := 0) (r2 := 0) (r3 := 0) rfl ?_
      refine wi_zreturn (nx := 13) (r1 := 0) (r2 := 0) (r3 := 0) rfl rfl (by omega) ?_
      refine wk_i ?_
      refine wi_if (cd := .eq) (nx := 34) (r1 := 49) (r2 := 0) (r3 := 0) rfl (by omega) (fun (q27 : 0 = 0) => ?_) (fun (q27 : ¬ (0 = 0)) => by exfalso; omega)
      refine wi_aload_n (i := 0) (x := 236) (nx := 50) (r1 := 0) (r2 := 0) (r3 := 0) rfl rfl ?_
      refine wr_V (k0 := 236) (rest := []) (as := [.ref 236]) (nx := 53) (r1 := 219) (r2 := 0) (r3 := 11) rfl rfl rfl (of_decide_eq_true rfl) rfl rfl (by decide) rfl rfl (of_decide_eq_true rfl) (of_decide_eq_true rfl) ?_
      refine wi_aload_n (i := 0) (x := 236) (nx := 1) (r1 := 0) (r2 := 0) (r3 := 0) rfl rfl ?_
      refine wr_gi0 (k0 := 236) (x := h20 236 8) (nx := 4) (r1 := 11) (r2 := 8) (r3 := 0) rfl rfl (by decide) rfl ⟨rfl, rfl⟩ rfl rfl ?_
      refine wi_if (cd := .ne) (nx := 7) (r1 := 11) (r2 := 0) (r3 := 0) rfl (by omega) (fun (q28 : (h20 236 8) ≠ 0) => ?_) (fun (q28 : ¬ ((h20 236 8) ≠ 0)) => by exfalso; omega)
      refine wi_iconst (n := 0) (nx := 12) (r1 := 0) (r2 := 0) (r3 := 0) rfl ?_
      refine wi_zreturn (nx := 13) (r1 := 0) (r2 := 0) (r3 := 0) rfl rfl (by omega) ?_
      refine wk_i ?_
      refine wi_if (cd := .ne) (nx := 56) (r1 := 57) (r2 := 0) (r3 := 0) rfl (by omega) (fun (q29 : 0 ≠ 0) => by exfalso; omega) (fun (q29 : ¬ (0 ≠ 0)) => ?_)
      refine wi_return (nx := 57) (r1 := 0) (r2 := 0) (r3 := 0) rfl rfl ?_
      have e30 : h20 236 4 = h14 236 4 := (u20 236 4 rfl)
      have e31 : h20 239 5 = h 239 5 := ((u20 239 5 rfl).trans (u14 239 5 rfl))
      have e32 : h20 239 7 = h 239 7 := ((u20 239 7 rfl).trans (u14 239 7 rfl))
      have e33 : h20 239 15 = h 239 15 := ((u20 239 15 rfl).trans (u14 239 15 rfl))
      have e34 : h20 239 16 = h 239 16 := ((u20 239 16 rfl).trans (u14 239 16 rfl))
      have e35 : h20 239 17 = h 239 17 := ((u20 239 17 rfl).trans (u14 239 17 rfl))
      have e36 : h20 239 18 = h 239 18 := ((u20 239 18 rfl).trans (u14 239 18 rfl))
      exact k h20 g20 F21 (show (h 236 4) ≤ (h20 236 4) by omega) (show (h20 236 4) ≤ (h 236 3) by omega) (show 1 ≤ (h20 236 8) ∨ ((h20 239 5) ≤ 9 ∧ 1 ≤ (h20 239 5) ∧ (h20 239 7) ≤ 3 ∧ (h20 239 15) ≤ 6 ∧ (h20 239 16) ≤ 6 ∧ (h20 239 17) ≤ 6 ∧ (h20 239 18) ≤ 6) by omega)
    ·
      refine wi_iconst (n := 1) (nx := 8) (r1 := 0) (r2 := 0) (r3 := 0) rfl ?_
      refine wi_goto (nx := 11) (r1 := 12) (r2 := 0) (r3 := 0) rfl ?_
      refine wi_zreturn (nx := 13) (r1 := 0) (r2 := 0) (r3 := 0) rfl rfl (by omega) ?_
      refine wk_i ?_
      refine wi_if (cd := .eq) (nx := 34) (r1 := 49) (r2 := 0) (r3 := 0) rfl (by omega) (fun (q27 : 1 = 0) => by exfalso; omega) (fun (q27 : ¬ (1 = 0)) => ?_)
      refine wi_iload_n (i := 2) (e := z24) (nx := 35) (r1 := 0) (r2 := 0) (r3 := 0) rfl rfl ?_
      refine wi_aload_n (i := 0) (x := 236) (nx := 36) (r1 := 0) (r2 := 0) (r3 := 0) rfl rfl ?_
      refine wr_gr (k0 := 236) (x := 239) (nx := 39) (r1 := 11) (r2 := 14) (r3 := 0) rfl rfl (by decide) rfl ⟨rfl, rfl⟩ rfl ?_
      refine wi_iconst (n := 0) (nx := 40) (r1 := 0) (r2 := 0) (r3 := 0) rfl ?_
      refine wr_ia (k0 := 239) (a := 0) (f := 0) (x := h 239 0) (nx := 41) (r1 := 0) (r2 := 0) (r3 := 0) rfl (by decide) rfl (by omega) (by omega) (by decide) ((u20 239 0 rfl).trans (u14 239 0 rfl)) ?_
      refine wi_icmp (cd := .ne) (nx := 44) (r1 := 49) (r2 := 0) (r3 := 0) rfl (by omega) (by omega) (fun (q28 : z24 ≠ (h 239 0)) => ?_) (fun (q28 : ¬ (z24 ≠ (h 239 0))) => ?_)
      ·
        refine wi_aload_n (i := 0) (x := 236) (nx := 50) (r1 := 0) (r2 := 0) (r3 := 0) rfl rfl ?_
        refine wr_V (k0 := 236) (rest := []) (as := [.ref 236]) (nx := 53) (r1 := 219) (r2 := 0) (r3 := 11) rfl rfl rfl (of_decide_eq_true rfl) rfl rfl (by decide) rfl rfl (of_decide_eq_true rfl) (of_decide_eq_true rfl) ?_
        refine wi_aload_n (i := 0) (x := 236) (nx := 1) (r1 := 0) (r2 := 0) (r3 := 0) rfl rfl ?_
        refine wr_gi0 (k0 := 236) (x := h20 236 8) (nx := 4) (r1 := 11) (r2 := 8) (r3 := 0) rfl rfl (by decide) rfl ⟨rfl, rfl⟩ rfl rfl ?_
        refine wi_if (cd := .ne) (nx := 7) (r1 := 11) (r2 := 0) (r3 := 0) rfl (by omega) (fun (q29 : (h20 236 8) ≠ 0) => by exfalso; omega) (fun (q29 : ¬ ((h20 236 8) ≠ 0)) => ?_)
        refine wi_iconst (n := 1) (nx := 8) (r1 := 0) (r2 := 0) (r3 := 0) rfl ?_
        refine wi_goto (nx := 11) (r1 := 12) (r2 := 0) (r3 := 0) rfl ?_
        refine wi_zreturn (nx := 13) (r1 := 0) (r2 := 0) (r3 := 0) rfl rfl (by omega) ?_
        refine wk_i ?_
        refine wi_if (cd := .ne) (nx := 56) (r1 := 57) (r2 := 0) (r3 := 0) rfl (by omega) (fun (q30 : 1 ≠ 0) => ?_) (fun (q30 : ¬ (1 ≠ 0)) => by exfalso; omega)
        refine wi_aload_n (i := 0) (x := 236) (nx := 58) (r1 := 0) (r2 := 0) (r3 := 0) rfl rfl ?_
        refine wr_V (k0 := 236) (rest := []) (as := [.ref 236]) (nx := 61) (r1 := 215) (r2 := 0) (r3 := 11) rfl rfl rfl (of_decide_eq_true rfl) rfl rfl (by decide) rfl rfl (of_decide_eq_true rfl) (of_decide_eq_true rfl) ?_
        have e32 : h20 236 4 = h14 236 4 := (u20 236 4 rfl)
        have e33 : h20 236 3 = h 236 3 := ((u20 236 3 rfl).trans (u14 236 3 rfl))
        refine ct_215_236 hcr  g20   (show (h20 236 4) ≤ (h20 236 3) by omega) (fun h31 g31 u31 (p31_0 : (h20 236 4) ≤ (h31 236 4)) (p31_1 : (h31 236 4) ≤ (h20 236 3)) (p31_2 : (h31 236 6) = 0 ∨ (h20 236 4) + 1 ≤ (h31 236 4)) => ?_)
        have F34 := F21.then (by decide +kernel) u31
        have b35 := gi_b (lo := 0) (hi := 800) g31 236 4 rfl
        have b36 := gi_b (lo := 0) (hi := 4) g31 236 6 rfl
        refine wk_n ?_
        refine wi_aload_n (i := 0) (x := 236) (nx := 62) (r1 := 0) (r2 := 0) (r3 := 0) rfl rfl ?_
        refine wr_gr (k0 := 236) (x := 239) (nx := 65) (r1 := 11) (r2 := 14) (r3 := 0) rfl rfl (by decide) rfl ⟨rfl, rfl⟩ rfl ?_
        refine wi_bipush (n := 31) (nx := 67) (r1 := 0) (r2 := 0) (r3 := 0) rfl (by decide) ?_
        refine wi_iload_n (i := 1) (e := h 239 2) (nx := 68) (r1 := 0) (r2 := 0) (r3 := 0) rfl rfl ?_
        refine wr_add (nx := 69) (r1 := 0) (r2 := 0) (r3 := 0) rfl (fun e37 (fe37 : e37 = 31 + (h 239 2)) => ?_)
        refine wi_iload_n (i := 2) (e := z24) (nx := 70) (r1 := 0) (r2 := 0) (r3 := 0) rfl rfl ?_
        obtain ⟨i38, ei38⟩ : ∃ q : Nat, e37 = (q : Int) := ⟨(e37).toNat, by omega⟩
        refine wr_is (k0 := 239) (a := e37) (f := i38) (x := z24) (bl := 0) (bh := 4) (nx := 71) (r1 := 0) (r2 := 0) (r3 := 0) rfl (by decide) rfl (by omega) (by omega) (by decide) g31 (gi_rq 31 12 (fun _ => rfl) (by decide +kernel) (by omega)) (by omega) (fun h39 g39 w39 u39 => ?_)
        have F40 := F34.then rfl (FR.idx (p := 31) (q := 42) u39 (by omega))
        refine wi_aload_n (i := 0) (x := 236) (nx := 72) (r1 := 0) (r2 := 0) (r3 := 0) rfl rfl ?_
        refine wr_gr (k0 := 236) (x := 239) (nx := 75) (r1 := 11) (r2 := 14) (r3 := 0) rfl rfl (by decide) rfl ⟨rfl, rfl⟩ rfl ?_
        refine wi_bipush (n := 19) (nx := 77) (r1 := 0) (r2 := 0) (r3 := 0) rfl (by decide) ?_
        refine wi_iload_n (i := 1) (e := h 239 2) (nx := 78) (r1 := 0) (r2 := 0) (r3 := 0) rfl rfl ?_
        refine wr_add (nx := 79) (r1 := 0) (r2 := 0) (r3 := 0) rfl (fun e41 (fe41 : e41 = 19 + (h 239 2)) => ?_)
        refine wi_aload_n (i := 0) (x := 236) (nx := 80) (r1 := 0) (r2 := 0) (r3 := 0) rfl rfl ?_
        refine wi_ldc2_w (e := 81049) (nx := 83) (r1 := 81049) (r2 := 0) (r3 := 0) rfl (by decide) ?_
        refine wi_iconst (n := 0) (nx := 84) (r1 := 0) (r2 := 0) (r3 := 0) rfl ?_
        refine wi_iconst (n := 3) (nx := 85) (r1 := 0) (r2 := 0) (r3 := 0) rfl ?_
        refine wr_V (k0 := 236) (rest := [vi e41, .ref 239]) (as := [.ref 236, vl 81049, vi 0, vi 3]) (nx := 88) (r1 := 228) (r2 := 3) (r3 := 11) rfl rfl rfl (of_decide_eq_true rfl) rfl rfl (by decide) rfl rfl (of_decide_eq_true rfl) (of_decide_eq_true rfl) ?_
        have e43 : h39 236 4 = h31 236 4 := (u39 236 4 (fn_a (by omega) fn_0))
        have e44 : h39 236 3 = h 236 3 := ((u39 236 3 (fn_a (by omega) fn_0)).trans ((u31 236 3 rfl).trans ((u20 236 3 rfl).trans (u14 236 3 rfl))))
        refine ct_228_236 hcr  g39 81049 0 3 (by omega) (by omega) (by omega) (show (h39 236 4) ≤ (h39 236 3) by omega) (fun h42 z45 g42 u42 (fz45 : 0 ≤ z45 ∧ z45 ≤ 999) (p42_0 : (h39 236 4) ≤ (h42 236 4)) (p42_1 : (h42 236 4) ≤ (h39 236 3)) (p42_2 : 1 ≤ (h42 236 8) ∨ (h39 236 8) = 0) (p42_3 : 1 ≤ (h42 236 8) ∨ (0 ≤ z45 ∧ z45 ≤ 3)) => ?_)
        have F46 := F40.then (by decide +kernel) u42
        have b47 := gi_b (lo := 0) (hi := 800) g42 236 4 rfl
        have b48 := gi_b (lo := 0) (hi := 5) g42 236 8 rfl
        refine wk_i ?_
        obtain ⟨i49, ei49⟩ : ∃ q : Nat, e41 = (q : Int) := ⟨(e41).toNat, by omega⟩
        refine wr_is (k0 := 239) (a := e41) (f := i49) (x := z45) (bl := 0) (bh := 999) (nx := 89) (r1 := 0) (r2 := 0) (r3 := 0) rfl (by decide) rfl (by omega) (by omega) (by decide) g42 (gi_rq 19 12 (fun _ => rfl) (by decide +kernel) (by omega)) (by omega) (fun h50 g50 w50 u50 => ?_)
        have F51 := F46.then rfl (FR.idx (p := 19) (q := 30) u50 (by omega))
        refine wi_aload_n (i := 0) (x := 236) (nx := 90) (r1 := 0) (r2 := 0) (r3 := 0) rfl rfl ?_
        refine wr_gr (k0 := 236) (x := 239) (nx := 93) (r1 := 11) (r2 := 14) (r3 := 0) rfl rfl (by decide) rfl ⟨rfl, rfl⟩ rfl ?_
        refine wi_bipush (n := 43) (nx := 95) (r1 := 0) (r2 := 0) (r3 := 0) rfl (by decide) ?_
        refine wi_iload_n (i := 1) (e := h 239 2) (nx := 96) (r1 := 0) (r2 := 0) (r3 := 0) rfl rfl ?_
        refine wr_add (nx := 97) (r1 := 0) (r2 := 0) (r3 := 0) rfl (fun e52 (fe52 : e52 = 43 + (h 239 2)) => ?_)
        refine wi_aload_n (i := 0) (x := 236) (nx := 98) (r1 := 0) (r2 := 0) (r3 := 0) rfl rfl ?_
        refine wi_ldc2_w (e := 2084) (nx := 101) (r1 := 2084) (r2 := 0) (r3 := 0) rfl (by decide) ?_
        refine wr_V (k0 := 236) (rest := [vi e52, .ref 239]) (as := [.ref 236, vl 2084]) (nx := 104) (r1 := 230) (r2 := 1) (r3 := 11) rfl rfl rfl (of_decide_eq_true rfl) rfl rfl (by decide) rfl rfl (of_decide_eq_true rfl) (of_decide_eq_true rfl) ?_
        refine wi_aload_n (i := 0) (x := 236) (nx := 1) (r1 := 0) (r2 := 0) (r3 := 0) rfl rfl ?_
        refine wi_lload_n (i := 1) (e := 2084) (nx := 2) (r1 := 0) (r2 := 0) (r3 := 0) rfl rfl ?_
        refine wr_V (k0 := 236) (rest := []) (as := [.ref 236, vl 2084]) (nx := 5) (r1 := 221) (r2 := 1) (r3 := 11) rfl rfl rfl (of_decide_eq_true rfl) rfl rfl (by decide) rfl rfl (of_decide_eq_true rfl) (of_decide_eq_true rfl) ?_
        refine wi_aload_n (i := 0) (x := 236) (nx := 1) (r1 := 0) (r2 := 0) (r3 := 0) rfl rfl ?_
        refine wr_gi0 (k0 := 236) (x := h42 236 8) (nx := 4) (r1 := 11) (r2 := 8) (r3 := 0) rfl rfl (by decide) rfl ⟨rfl, rfl⟩ rfl (u50 236 8 (fn_a (by omega) fn_0)) ?_
        refine wi_if (cd := .ne) (nx := 7) (r1 := 28) (r2 := 0) (r3 := 0) rfl (by omega) (fun (q53 : (h42 236 8) ≠ 0) => ?_) (fun (q53 : ¬ ((h42 236 8) ≠ 0)) => ?_)
        ·
          refine wi_iconst (n := 0) (nx := 29) (r1 := 0) (r2 := 0) (r3 := 0) rfl ?_
          refine wi_zreturn (nx := 30) (r1 := 0) (r2 := 0) (r3 := 0) rfl rfl (by omega) ?_
          refine wk_i ?_
          refine wi_istore_n (i := 3) (e := 0) (lo2 := [(3, vi 0), (0, .ref 236), (1, vl 2084)]) (nx := 6) (r1 := 0) (r2 := 0) (r3 := 0) rfl rfl ?_
          refine wi_iload_n (i := 3) (e := 0) (nx := 7) (r1 := 0) (r2 := 0) (r3 := 0) rfl rfl ?_
          refine wi_if (cd := .eq) (nx := 10) (r1 := 14) (r2 := 0) (r3 := 0) rfl (by omega) (fun (q54 : 0 = 0) => ?_) (fun (q54 : ¬ (0 = 0)) => by exfalso; omega)
          refine wi_iload_n (i := 3) (e := 0) (nx := 15) (r1 := 0) (r2 := 0) (r3 := 0) rfl rfl ?_
          refine wi_zreturn (nx := 16) (r1 := 0) (r2 := 0) (r3 := 0) rfl rfl (by omega) ?_
          refine wk_i ?_
          refine wi_if (cd := .eq) (nx := 107) (r1 := 116) (r2 := 0) (r3 := 0) rfl (by omega) (fun (q55 : 0 = 0) => ?_) (fun (q55 : ¬ (0 = 0)) => by exfalso; omega)
          refine wi_iconst (n := 0) (nx := 117) (r1 := 0) (r2 := 0) (r3 := 0) rfl ?_
          obtain ⟨i56, ei56⟩ : ∃ q : Nat, e52 = (q : Int) := ⟨(e52).toNat, by omega⟩
          refine wr_is (k0 := 239) (a := e52) (f := i56) (x := 0) (bl := 0) (bh := 999) (nx := 118) (r1 := 0) (r2 := 0) (r3 := 0) rfl (by decide) rfl (by omega) (by omega) (by decide) g50 (gi_rq 43 12 (fun _ => rfl) (by decide +kernel) (by omega)) (by omega) (fun h57 g57 w57 u57 => ?_)
          have F58 := F51.then rfl (FR.idx (p := 43) (q := 54) u57 (by omega))
          refine wi_aload_n (i := 0) (x := 236) (nx := 119) (r1 := 0) (r2 := 0) (r3 := 0) rfl rfl ?_
          refine wr_V (k0 := 236) (rest := []) (as := [.ref 236]) (nx := 122) (r1 := 219) (r2 := 0) (r3 := 11) rfl rfl rfl (of_decide_eq_true rfl) rfl rfl (by decide) rfl rfl (of_decide_eq_true rfl) (of_decide_eq_true rfl) ?_
          refine wi_aload_n (i := 0) (x := 236) (nx := 1) (r1 := 0) (r2 := 0) (r3 := 0) rfl rfl ?_
          refine wr_gi0 (k0 := 236) (x := h42 236 8) (nx := 4) (r1 := 11) (r2 := 8) (r3 := 0) rfl rfl (by decide) rfl ⟨rfl, rfl⟩ rfl ((u57 236 8 (fn_a (by omega) fn_0)).trans (u50 236 8 (fn_a (by omega) fn_0))) ?_
          refine wi_if (cd := .ne) (nx := 7) (r1 := 11) (r2 := 0) (r3 := 0) rfl (by omega) (fun (q59 : (h42 236 8) ≠ 0) => ?_) (fun (q59 : ¬ ((h42 236 8) ≠ 0)) => by exfalso; omega)
          refine wi_iconst (n := 0) (nx := 12) (r1 := 0) (r2 := 0) (r3 := 0) rfl ?_
          refine wi_zreturn (nx := 13) (r1 := 0) (r2 := 0) (r3 := 0) rfl rfl (by omega) ?_
          refine wk_i ?_
          refine wi_if (cd := .eq) (nx := 125) (r1 := 135) (r2 := 0) (r3 := 0) rfl (by omega) (fun (q60 : 0 = 0) => ?_) (fun (q60 : ¬ (0 = 0)) => by exfalso; omega)
          refine wi_return (nx := 136) (r1 := 0) (r2 := 0) (r3 := 0) rfl rfl ?_
          have e61 : h57 236 4 = h42 236 4 := ((u57 236 4 (fn_a (by omega) fn_0)).trans (u50 236 4 (fn_a (by omega) fn_0)))
          have e62 : h57 236 8 = h42 236 8 := ((u57 236 8 (fn_a (by omega) fn_0)).trans (u50 236 8 (fn_a (by omega) fn_0)))
          have e63 : h57 239 5 = h 239 5 := ((u57 239 5 (fn_i (by omega) fn_0)).trans ((u50 239 5 (fn_i (by omega) fn_0)).trans ((u42 239 5 rfl).trans ((u39 239 5 (fn_i (by omega) fn_0)).trans ((u31 239 5 rfl).trans ((u20 239 5 rfl).trans (u14 239 5 rfl)))))))
          have e64 : h57 239 7 = h 239 7 := ((u57 239 7 (fn_i (by omega) fn_0)).trans ((u50 239 7 (fn_i (by omega) fn_0)).trans ((u42 239 7 rfl).trans ((u39 239 7 (fn_i (by omega) fn_0)).trans ((u31 239 7 rfl).trans ((u20 239 7 rfl).trans (u14 239 7 rfl)))))))
          have e65 : h57 239 15 = h 239 15 := ((u57 239 15 (fn_i (by omega) fn_0)).trans ((u50 239 15 (fn_i (by omega) fn_0)).trans ((u42 239 15 rfl).trans ((u39 239 15 (fn_i (by omega) fn_0)).trans ((u31 239 15 rfl).trans ((u20 239 15 rfl).trans (u14 239 15 rfl)))))))
          have e66 : h57 239 16 = h 239 16 := ((u57 239 16 (fn_i (by omega) fn_0)).trans ((u50 239 16 (fn_i (by omega) fn_0)).trans ((u42 239 16 rfl).trans ((u39 239 16 (fn_i (by omega) fn_0)).trans ((u31 239 16 rfl).trans ((u20 239 16 rfl).trans (u14 239 16 rfl)))))))
          have e67 : h57 239 17 = h 239 17 := ((u57 239 17 (fn_i (by omega) fn_0)).trans ((u50 239 17 (fn_i (by omega) fn_0)).trans ((u42 239 17 rfl).trans ((u39 239 17 (fn_i (by omega) fn_0)).trans ((u31 239 17 rfl).trans ((u20 239 17 rfl).trans (u14 239 17 rfl)))))))
          have e68 : h57 239 18 = h 239 18 := ((u57 239 18 (fn_i (by omega) fn_0)).trans ((u50 239 18 (fn_i (by omega) fn_0)).trans ((u42 239 18 rfl).trans ((u39 239 18 (fn_i (by omega) fn_0)).trans ((u31 239 18 rfl).trans ((u20 239 18 rfl).trans (u14 239 18 rfl)))))))
          exact k h57 g57 F58 (show (h 236 4) ≤ (h57 236 4) by omega) (show (h57 236 4) ≤ (h 236 3) by omega) (show 1 ≤ (h57 236 8) ∨ ((h57 239 5) ≤ 9 ∧ 1 ≤ (h57 239 5) ∧ (h57 239 7) ≤ 3 ∧ (h57 239 15) ≤ 6 ∧ (h57 239 16) ≤ 6 ∧ (h57 239 17) ≤ 6 ∧ (h57 239 18) ≤ 6) by omega)
        ·
          refine wi_aload_n (i := 0) (x := 236) (nx := 8) (r1 := 0) (r2 := 0) (r3 := 0) rfl rfl ?_
          have b54 := gi_b (lo := 0) (hi := 4) g42 236 6 rfl
          refine wr_gi0 (k0 := 236) (x := h42 236 6) (nx := 11) (r1 := 11) (r2 := 6) (r3 := 0) rfl rfl (by decide) rfl ⟨rfl, rfl⟩ rfl (u50 236 6 (fn_a (by omega) fn_0)) ?_
          refine wi_iconst (n := 1) (nx := 12) (r1 := 0) (r2 := 0) (r3 := 0) rfl ?_
          refine wi_icmp (cd := .ne) (nx := 15) (r1 := 28) (r2 := 0) (r3 := 0) rfl (by omega) (by omega) (fun (q55 : (h42 236 6) ≠ 1) => ?_) (fun (q55 : ¬ ((h42 236 6) ≠ 1)) => ?_)
          ·
            refine wi_iconst (n := 0) (nx := 29) (r1 := 0) (r2 := 0) (r3 := 0) rfl ?_
            refine wi_zreturn (nx := 30) (r1 := 0) (r2 := 0) (r3 := 0) rfl rfl (by omega) ?_
            refine wk_i ?_
            refine wi_istore_n (i := 3) (e := 0) (lo2 := [(3, vi 0), (0, .ref 236), (1, vl 2084)]) (nx := 6) (r1 := 0) (r2 := 0) (r3 := 0) rfl rfl ?_
            refine wi_iload_n (i := 3) (e := 0) (nx := 7) (r1 := 0) (r2 := 0) (r3 := 0) rfl rfl ?_
            refine wi_if (cd := .eq) (nx := 10) (r1 := 14) (r2 := 0) (r3 := 0) rfl (by omega) (fun (q56 : 0 = 0) => ?_) (fun (q56 : ¬ (0 = 0)) => by exfalso; omega)
            refine wi_iload_n (i := 3) (e := 0) (nx := 15) (r1 := 0) (r2 := 0) (r3 := 0) rfl rfl ?_
            refine wi_zreturn (nx := 16) (r1 := 0) (r2 := 0) (r3 := 0) rfl rfl (by omega) ?_
            refine wk_i ?_
            refine wi_if (cd := .eq) (nx := 107) (r1 := 116) (r2 := 0) (r3 := 0) rfl (by omega) (fun (q57 : 0 = 0) => ?_) (fun (q57 : ¬ (0 = 0)) => by exfalso; omega)
            refine wi_iconst (n := 0) (nx := 117) (r1 := 0) (r2 := 0) (r3 := 0) rfl ?_
            obtain ⟨i58, ei58⟩ : ∃ q : Nat, e52 = (q : Int) := ⟨(e52).toNat, by omega⟩
            refine wr_is (k0 := 239) (a := e52) (f := i58) (x := 0) (bl := 0) (bh := 999) (nx := 118) (r1 := 0) (r2 := 0) (r3 := 0) rfl (by decide) rfl (by omega) (by omega) (by decide) g50 (gi_rq 43 12 (fun _ => rfl) (by decide +kernel) (by omega)) (by omega) (fun h59 g59 w59 u59 => ?_)
            have F60 := F51.then rfl (FR.idx (p := 43) (q := 54) u59 (by omega))
            refine wi_aload_n (i := 0) (x := 236) (nx := 119) (r1 := 0) (r2 := 0) (r3 := 0) rfl rfl ?_
            refine wr_V (k0 := 236) (rest := []) (as := [.ref 236]) (nx := 122) (r1 := 219) (r2 := 0) (r3 := 11) rfl rfl rfl (of_decide_eq_true rfl) rfl rfl (by decide) rfl rfl (of_decide_eq_true rfl) (of_decide_eq_true rfl) ?_
            refine wi_aload_n (i := 0) (x := 236) (nx := 1) (r1 := 0) (r2 := 0) (r3 := 0) rfl rfl ?_
            refine wr_gi0 (k0 := 236) (x := h42 236 8) (nx := 4) (r1 := 11) (r2 := 8) (r3 := 0) rfl rfl (by decide) rfl ⟨rfl, rfl⟩ rfl ((u59 236 8 (fn_a (by omega) fn_0)).trans (u50 236 8 (fn_a (by omega) fn_0))) ?_
            refine wi_if (cd := .ne) (nx := 7) (r1 := 11) (r2 := 0) (r3 := 0) rfl (by omega) (fun (q61 : (h42 236 8) ≠ 0) => by exfalso; omega) (fun (q61 : ¬ ((h42 236 8) ≠ 0)) => ?_)
            refine wi_iconst (n := 1) (nx := 8) (r1 := 0) (r2 := 0) (r3 := 0) rfl ?_
            refine wi_goto (nx := 11) (r1 := 12) (r2 := 0) (r3 := 0) rfl ?_
            refine wi_zreturn (nx := 13) (r1 := 0) (r2 := 0) (r3 := 0) rfl rfl (by omega) ?_
            refine wk_i ?_
            refine wi_if (cd := .eq) (nx := 125) (r1 := 135) (r2 := 0) (r3 := 0) rfl (by omega) (fun (q62 : 1 = 0) => by exfalso; omega) (fun (q62 : ¬ (1 = 0)) => ?_)
            refine wi_aload_n (i := 0) (x := 236) (nx := 126) (r1 := 0) (r2 := 0) (r3 := 0) rfl rfl ?_
            refine wr_gr (k0 := 236) (x := 239) (nx := 129) (r1 := 11) (r2 := 14) (r3 := 0) rfl rfl (by decide) rfl ⟨rfl, rfl⟩ rfl ?_
            refine wi_iconst (n := 2) (nx := 130) (r1 := 0) (r2 := 0) (r3 := 0) rfl ?_
            refine wi_dup2 (nx := 131) (r1 := 0) (r2 := 0) (r3 := 0) rfl rfl rfl ?_
            refine wr_ia (k0 := 239) (a := 2) (f := 2) (x := h 239 2) (nx := 132) (r1 := 0) (r2 := 0) (r3 := 0) rfl (by decide) rfl (by omega) (by omega) (by decide) ((u59 239 2 (fn_i (by omega) fn_0)).trans ((u50 239 2 (fn_i (by omega) fn_0)).trans ((u42 239 2 rfl).trans ((u39 239 2 (fn_i (by omega) fn_0)).trans ((u31 239 2 rfl).trans ((u20 239 2 rfl).trans (u14 239 2 rfl))))))) ?_
            refine wi_iconst (n := 1) (nx := 133) (r1 := 0) (r2 := 0) (r3 := 0) rfl ?_
            refine wr_add (nx := 134) (r1 := 0) (r2 := 0) (r3 := 0) rfl (fun e63 (fe63 : e63 = (h 239 2) + 1) => ?_)
            refine wr_is (k0 := 239) (a := 2) (f := 2) (x := e63) (bl := 0) (bh := 12) (nx := 135) (r1 := 0) (r2 := 0) (r3 := 0) rfl (by decide) rfl (by omega) (by omega) (by decide) g59 rfl (by omega) (fun h64 g64 w64 u64 => ?_)
            have F65 := F60.then rfl u64
            refine wi_return (nx := 136) (r1 := 0) (r2 := 0) (r3 := 0) rfl rfl ?_
            have e66 : h64 236 4 = h42 236 4 := ((u64 236 4 rfl).trans ((u59 236 4 (fn_a (by omega) fn_0)).trans (u50 236 4 (fn_a (by omega) fn_0))))
            have e67 : h64 236 8 = h42 236 8 := ((u64 236 8 rfl).trans ((u59 236 8 (fn_a (by omega) fn_0)).trans (u50 236 8 (fn_a (by omega) fn_0))))
            have e68 : h64 239 5 = h 239 5 := ((u64 239 5 rfl).trans ((u59 239 5 (fn_i (by omega) fn_0)).trans ((u50 239 5 (fn_i (by omega) fn_0)).trans ((u42 239 5 rfl).trans ((u39 239 5 (fn_i (by omega) fn_0)).trans ((u31 239 5 rfl).trans ((u20 239 5 rfl).trans (u14 239 5 rfl))))))))
            have e69 : h64 239 7 = h 239 7 := ((u64 239 7 rfl).trans ((u59 239 7 (fn_i (by omega) fn_0)).trans ((u50 239 7 (fn_i (by omega) fn_0)).trans ((u42 239 7 rfl).trans ((u39 239 7 (fn_i (by omega) fn_0)).trans ((u31 239 7 rfl).trans ((u20 239 7 rfl).trans (u14 239 7 rfl))))))))
            have e70 : h64 239 15 = h 239 15 := ((u64 239 15 rfl).trans ((u59 239 15 (fn_i (by omega) fn_0)).trans ((u50 239 15 (fn_i (by omega) fn_0)).trans ((u42 239 15 rfl).trans ((u39 239 15 (fn_i (by omega) fn_0)).trans ((u31 239 15 rfl).trans ((u20 239 15 rfl).trans (u14 239 15 rfl))))))))
            have e71 : h64 239 16 = h 239 16 := ((u64 239 16 rfl).trans ((u59 239 16 (fn_i (by omega) fn_0)).trans ((u50 239 16 (fn_i (by omega) fn_0)).trans ((u42 239 16 rfl).trans ((u39 239 16 (fn_i (by omega) fn_0)).trans ((u31 239 16 rfl).trans ((u20 239 16 rfl).trans (u14 239 16 rfl))))))))
            have e72 : h64 239 17 = h 239 17 := ((u64 239 17 rfl).trans ((u59 239 17 (fn_i (by omega) fn_0)).trans ((u50 239 17 (fn_i (by omega) fn_0)).trans ((u42 239 17 rfl).trans ((u39 239 17 (fn_i (by omega) fn_0)).trans ((u31 239 17 rfl).trans ((u20 239 17 rfl).trans (u14 239 17 rfl))))))))
            have e73 : h64 239 18 = h 239 18 := ((u64 239 18 rfl).trans ((u59 239 18 (fn_i (by omega) fn_0)).trans ((u50 239 18 (fn_i (by omega) fn_0)).trans ((u42 239 18 rfl).trans ((u39 239 18 (fn_i (by omega) fn_0)).trans ((u31 239 18 rfl).trans ((u20 239 18 rfl).trans (u14 239 18 rfl))))))))
            exact k h64 g64 F65 (show (h 236 4) ≤ (h64 236 4) by omega) (show (h64 236 4) ≤ (h 236 3) by omega) (show 1 ≤ (h64 236 8) ∨ ((h64 239 5) ≤ 9 ∧ 1 ≤ (h64 239 5) ∧ (h64 239 7) ≤ 3 ∧ (h64 239 15) ≤ 6 ∧ (h64 239 16) ≤ 6 ∧ (h64 239 17) ≤ 6 ∧ (h64 239 18) ≤ 6) by omega)
          ·
            refine wi_aload_n (i := 0) (x := 236) (nx := 16) (r1 := 0) (r2 := 0) (r3 := 0) rfl rfl ?_
            have b56 := gi_b (lo := -9223372036854775808) (hi := 9223372036854775807) g42 236 12 rfl
            refine wr_gi1 (k0 := 236) (x := h42 236 12) (nx := 19) (r1 := 11) (r2 := 12) (r3 := 0) rfl rfl (by decide) rfl ⟨rfl, rfl⟩ rfl (u50 236 12 (fn_a (by omega) fn_0)) ?_
            refine wi_lload_n (i := 1) (e := 2084) (nx := 20) (r1 := 0) (r2 := 0) (r3 := 0) rfl rfl ?_
            refine wi_lcmp (a := h42 236 12) (e := 2084) (nx := 21) (r1 := 0) (r2 := 0) (r3 := 0) rfl (by omega) (by omega) (fun r57 (fr57 : (r57 = -1 ∧ (h42 236 12) < 2084) ∨ (r57 = 0 ∧ (h42 236 12) = 2084) ∨ (r57 = 1 ∧ 2084 < (h42 236 12))) => ?_)
            refine wi_if (cd := .ne) (nx := 24) (r1 := 28) (r2 := 0) (r3 := 0) rfl (by omega) (fun (q58 : r57 ≠ 0) => ?_) (fun (q58 : ¬ (r57 ≠ 0)) => ?_)
            ·
              refine wi_iconst (n := 0) (nx := 29) (r1 := 0) (r2 := 0) (r3 := 0) rfl ?_
              refine wi_zreturn (nx := 30) (r1 := 0) (r2 := 0) (r3 := 0) rfl rfl (by omega) ?_
              refine wk_i ?_
              refine wi_istore_n (i := 3) (e := 0) (lo2 := [(3, vi 0), (0, .ref 236), (1, vl 2084)]) (nx := 6) (r1 := 0) (r2 := 0) (r3 := 0) rfl rfl ?_
              refine wi_iload_n (i := 3) (e := 0) (nx := 7) (r1 := 0) (r2 := 0) (r3 := 0) rfl rfl ?_
              refine wi_if (cd := .eq) (nx := 10) (r1 := 14) (r2 := 0) (r3 := 0) rfl (by omega) (fun (q59 : 0 = 0) => ?_) (fun (q59 : ¬ (0 = 0)) => by exfalso; omega)
              refine wi_iload_n (i := 3) (e := 0) (nx := 15) (r1 := 0) (r2 := 0) (r3 := 0) rfl rfl ?_
              refine wi_zreturn (nx := 16) (r1 := 0) (r2 := 0) (r3 := 0) rfl rfl (by omega) ?_
              refine wk_i ?_
              refine wi_if (cd := .eq) (nx := 107) (r1 := 116) (r2 := 0) (r3 := 0) rfl (by omega) (fun (q60 : 0 = 0) => ?_) (fun (q60 : ¬ (0 = 0)) => by exfalso; omega)
              refine wi_iconst (n := 0) (nx := 117) (r1 := 0) (r2 := 0) (r3 := 0) rfl ?_
              obtain ⟨i61, ei61⟩ : ∃ q : Nat, e52 = (q : Int) := ⟨(e52).toNat, by omega⟩
              refine wr_is (k0 := 239) (a := e52) (f := i61) (x := 0) (bl := 0) (bh := 999) (nx := 118) (r1 := 0) (r2 := 0) (r3 := 0) rfl (by decide) rfl (by omega) (by omega) (by decide) g50 (gi_rq 43 12 (fun _ => rfl) (by decide +kernel) (by omega)) (by omega) (fun h62 g62 w62 u62 => ?_)
              have F63 := F51.then rfl (FR.idx (p := 43) (q := 54) u62 (by omega))
              refine wi_aload_n (i := 0) (x := 236) (nx := 119) (r1 := 0) (r2 := 0) (r3 := 0) rfl rfl ?_
              refine wr_V (k0 := 236) (rest := []) (as := [.ref 236]) (nx := 122) (r1 := 219) (r2 := 0) (r3 := 11) rfl rfl rfl (of_decide_eq_true rfl) rfl rfl (by decide) rfl rfl (of_decide_eq_true rfl) (of_decide_eq_true rfl) ?_
              refine wi_aload_n (i := 0) (x := 236) (nx := 1) (r1 := 0) (r2 := 0) (r3 := 0) rfl rfl ?_
              refine wr_gi0 (k0 := 236) (x := h42 236 8) (nx := 4) (r1 := 11) (r2 := 8) (r3 := 0) rfl rfl (by decide) rfl ⟨rfl, rfl⟩ rfl ((u62 236 8 (fn_a (by omega) fn_0)).trans (u50 236 8 (fn_a (by omega) fn_0))) ?_
              refine wi_if (cd := .ne) (nx := 7) (r1 := 11) (r2 := 0) (r3 := 0) rfl (by omega) (fun (q64 : (h42 236 8) ≠ 0) => by exfalso; omega) (fun (q64 : ¬ ((h42 236 8) ≠ 0)) => ?_)
              refine wi_iconst (n := 1) (nx := 8) (r1 := 0) (r2 := 0) (r3 := 0) rfl ?_
              refine wi_goto (nx := 11) (r1 := 12) (r2 := 0) (r3 := 0) rfl ?_
              refine wi_zreturn (nx := 13) (r1 := 0) (r2 := 0) (r3 := 0) rfl rfl (by omega) ?_
              refine wk_i ?_
              refine wi_if (cd := .eq) (nx := 125) (r1 := 135) (r2 := 0) (r3 := 0) rfl (by omega) (fun (q65 : 1 = 0) => by exfalso; omega) (fun (q65 : ¬ (1 = 0)) => ?_)
              refine wi_aload_n (i := 0) (x := 236) (nx := 126) (r1 := 0) (r2 := 0) (r3 := 0) rfl rfl ?_
              refine wr_gr (k0 := 236) (x := 239) (nx := 129) (r1 := 11) (r2 := 14) (r3 := 0) rfl rfl (by decide) rfl ⟨rfl, rfl⟩ rfl ?_
              refine wi_iconst (n := 2) (nx := 130) (r1 := 0) (r2 := 0) (r3 := 0) rfl ?_
              refine wi_dup2 (nx := 131) (r1 := 0) (r2 := 0) (r3 := 0) rfl rfl rfl ?_
              refine wr_ia (k0 := 239) (a := 2) (f := 2) (x := h 239 2) (nx := 132) (r1 := 0) (r2 := 0) (r3 := 0) rfl (by decide) rfl (by omega) (by omega) (by decide) ((u62 239 2 (fn_i (by omega) fn_0)).trans ((u50 239 2 (fn_i (by omega) fn_0)).trans ((u42 239 2 rfl).trans ((u39 239 2 (fn_i (by omega) fn_0)).trans ((u31 239 2 rfl).trans ((u20 239 2 rfl).trans (u14 239 2 rfl))))))) ?_
              refine wi_iconst (n := 1) (nx := 133) (r1 := 0) (r2 := 0) (r3 := 0) rfl ?_
              refine wr_add (nx := 134) (r1 := 0) (r2 := 0) (r3 := 0) rfl (fun e66 (fe66 : e66 = (h 239 2) + 1) => ?_)
              refine wr_is (k0 := 239) (a := 2) (f := 2) (x := e66) (bl := 0) (bh := 12) (nx := 135) (r1 := 0) (r2 := 0) (r3 := 0) rfl (by decide) rfl (by omega) (by omega) (by decide) g62 rfl (by omega) (fun h67 g67 w67 u67 => ?_)
              have F68 := F63.then rfl u67
              refine wi_return (nx := 136) (r1 := 0) (r2 := 0) (r3 := 0) rfl rfl ?_
              have e69 : h67 236 4 = h42 236 4 := ((u67 236 4 rfl).trans ((u62 236 4 (fn_a (by omega) fn_0)).trans (u50 236 4 (fn_a (by omega) fn_0))))
              have e70 : h67 236 8 = h42 236 8 := ((u67 236 8 rfl).trans ((u62 236 8 (fn_a (by omega) fn_0)).trans (u50 236 8 (fn_a (by omega) fn_0))))
              have e71 : h67 239 5 = h 239 5 := ((u67 239 5 rfl).trans ((u62 239 5 (fn_i (by omega) fn_0)).trans ((u50 239 5 (fn_i (by omega) fn_0)).trans ((u42 239 5 rfl).trans ((u39 239 5 (fn_i (by omega) fn_0)).trans ((u31 239 5 rfl).trans ((u20 239 5 rfl).trans (u14 239 5 rfl))))))))
              have e72 : h67 239 7 = h 239 7 := ((u67 239 7 rfl).trans ((u62 239 7 (fn_i (by omega) fn_0)).trans ((u50 239 7 (fn_i (by omega) fn_0)).trans ((u42 239 7 rfl).trans ((u39 239 7 (fn_i (by omega) fn_0)).trans ((u31 239 7 rfl).trans ((u20 239 7 rfl).trans (u14 239 7 rfl))))))))
              have e73 : h67 239 15 = h 239 15 := ((u67 239 15 rfl).trans ((u62 239 15 (fn_i (by omega) fn_0)).trans ((u50 239 15 (fn_i (by omega) fn_0)).trans ((u42 239 15 rfl).trans ((u39 239 15 (fn_i (by omega) fn_0)).trans ((u31 239 15 rfl).trans ((u20 239 15 rfl).trans (u14 239 15 rfl))))))))
              have e74 : h67 239 16 = h 239 16 := ((u67 239 16 rfl).trans ((u62 239 16 (fn_i (by omega) fn_0)).trans ((u50 239 16 (fn_i (by omega) fn_0)).trans ((u42 239 16 rfl).trans ((u39 239 16 (fn_i (by omega) fn_0)).trans ((u31 239 16 rfl).trans ((u20 239 16 rfl).trans (u14 239 16 rfl))))))))
              have e75 : h67 239 17 = h 239 17 := ((u67 239 17 rfl).trans ((u62 239 17 (fn_i (by omega) fn_0)).trans ((u50 239 17 (fn_i (by omega) fn_0)).trans ((u42 239 17 rfl).trans ((u39 239 17 (fn_i (by omega) fn_0)).trans ((u31 239 17 rfl).trans ((u20 239 17 rfl).trans (u14 239 17 rfl))))))))
              have e76 : h67 239 18 = h 239 18 := ((u67 239 18 rfl).trans ((u62 239 18 (fn_i (by omega) fn_0)).trans ((u50 239 18 (fn_i (by omega) fn_0)).trans ((u42 239 18 rfl).trans ((u39 239 18 (fn_i (by omega) fn_0)).trans ((u31 239 18 rfl).trans ((u20 239 18 rfl).trans (u14 239 18 rfl))))))))
              exact k h67 g67 F68 (show (h 236 4) ≤ (h67 236 4) by omega) (show (h67 236 4) ≤ (h 236 3) by omega) (show 1 ≤ (h67 236 8) ∨ ((h67 239 5) ≤ 9 ∧ 1 ≤ (h67 239 5) ∧ (h67 239 7) ≤ 3 ∧ (h67 239 15) ≤ 6 ∧ (h67 239 16) ≤ 6 ∧ (h67 239 17) ≤ 6 ∧ (h67 239 18) ≤ 6) by omega)
            ·
              refine wi_iconst (n := 1) (nx := 25) (r1 := 0) (r2 := 0) (r3 := 0) rfl ?_
              refine wi_goto (nx := 28) (r1 := 29) (r2 := 0) (r3 := 0) rfl ?_
              refine wi_zreturn (nx := 30) (r1 := 0) (r2 := 0) (r3 := 0) rfl rfl (by omega) ?_
              refine wk_i ?_
              refine wi_istore_n (i := 3) (e := 1) (lo2 := [(3, vi 1), (0, .ref 236), (1, vl 2084)]) (nx := 6) (r1 := 0) (r2 := 0) (r3 := 0) rfl rfl ?_
              refine wi_iload_n (i := 3) (e := 1) (nx := 7) (r1 := 0) (r2 := 0) (r3 := 0) rfl rfl ?_
              refine wi_if (cd := .eq) (nx := 10) (r1 := 14) (r2 := 0) (r3 := 0) rfl (by omega) (fun (q59 : 1 = 0) => by exfalso; omega) (fun (q59 : ¬ (1 = 0)) => ?_)
              refine wi_aload_n (i := 0) (x := 236) (nx := 11) (r1 := 0) (r2 := 0) (r3 := 0) rfl rfl ?_
              refine wr_V (k0 := 236) (rest := []) (as := [.ref 236]) (nx := 14) (r1 := 215) (r2 := 0) (r3 := 11) rfl rfl rfl (of_decide_eq_true rfl) rfl rfl (by decide) rfl rfl (of_decide_eq_true rfl) (of_decide_eq_true rfl) ?_
              have e61 : h50 236 4 = h42 236 4 := (u50 236 4 (fn_a (by omega) fn_0))
              have e62 : h50 236 3 = h 236 3 := ((u50 236 3 (fn_a (by omega) fn_0)).trans ((u42 236 3 rfl).trans ((u39 236 3 (fn_a (by omega) fn_0)).trans ((u31 236 3 rfl).trans ((u20 236 3 rfl).trans (u14 236 3 rfl))))))
              refine ct_215_236 hcr  g50   (show (h50 236 4) ≤ (h50 236 3) by omega) (fun h60 g60 u60 (p60_0 : (h50 236 4) ≤ (h60 236 4)) (p60_1 : (h60 236 4) ≤ (h50 236 3)) (p60_2 : (h60 236 6) = 0 ∨ (h50 236 4) + 1 ≤ (h60 236 4)) => ?_)
              have F63 := F51.then (by decide +kernel) u60
              have b64 := gi_b (lo := 0) (hi := 800) g60 236 4 rfl
              have b65 := gi_b (lo := 0) (hi := 4) g60 236 6 rfl
              refine wk_n ?_
              refine wi_iload_n (i := 3) (e := 1) (nx := 15) (r1 := 0) (r2 := 0) (r3 := 0) rfl rfl ?_
              refine wi_zreturn (nx := 16) (r1 := 0) (r2 := 0) (r3 := 0) rfl rfl (by omega) ?_
              refine wk_i ?_
              refine wi_if (cd := .eq) (nx := 107) (r1 := 116) (r2 := 0) (r3 := 0) rfl (by omega) (fun (q66 : 1 = 0) => by exfalso; omega) (fun (q66 : ¬ (1 = 0)) => ?_)
              refine wi_aload_n (i := 0) (x := 236) (nx := 108) (r1 := 0) (r2 := 0) (r3 := 0) rfl rfl ?_
              refine wi_iconst (n := 0) (nx := 109) (r1 := 0) (r2 := 0) (r3 := 0) rfl ?_
              refine wi_iconst (n := 2) (nx := 110) (r1 := 0) (r2 := 0) (r3 := 0) rfl ?_
              refine wr_V (k0 := 236) (rest := [vi e52, .ref 239]) (as := [.ref 236, vi 0, vi 2]) (nx := 113) (r1 := 231) (r2 := 2) (r3 := 11) rfl rfl rfl (of_decide_eq_true rfl) rfl rfl (by decide) rfl rfl (of_decide_eq_true rfl) (of_decide_eq_true rfl) ?_
              have e68 : h60 236 3 = h 236 3 := ((u60 236 3 rfl).trans ((u50 236 3 (fn_a (by omega) fn_0)).trans ((u42 236 3 rfl).trans ((u39 236 3 (fn_a (by omega) fn_0)).trans ((u31 236 3 rfl).trans ((u20 236 3 rfl).trans (u14 236 3 rfl)))))))
              refine ct_231_236 hcr  g60 0 2 (by omega) (by omega) (show (h60 236 4) ≤ (h60 236 3) by omega) (fun h67 z69 g67 u67 (fz69 : 0 ≤ z69 ∧ z69 ≤ 999) (p67_0 : (h60 236 4) ≤ (h67 236 4)) (p67_1 : (h67 236 4) ≤ (h60 236 3)) (p67_2 : 1 ≤ (h67 236 8) ∨ (h60 236 8) = 0) (p67_3 : 1 ≤ (h67 236 8) ∨ (0 ≤ z69 ∧ z69 ≤ 2)) => ?_)
              have F70 := F63.then (by decide +kernel) u67
              have b71 := gi_b (lo := 0) (hi := 800) g67 236 4 rfl
              have b72 := gi_b (lo := 0) (hi := 5) g67 236 8 rfl
              refine wk_i ?_
              refine wi_goto (nx := 116) (r1 := 117) (r2 := 0) (r3 := 0) rfl ?_
              obtain ⟨i73, ei73⟩ : ∃ q : Nat, e52 = (q : Int) := ⟨(e52).toNat, by omega⟩
              refine wr_is (k0 := 239) (a := e52) (f := i73) (x := z69) (bl := 0) (bh := 999) (nx := 118) (r1 := 0) (r2 := 0) (r3 := 0) rfl (by decide) rfl (by omega) (by omega) (by decide) g67 (gi_rq 43 12 (fun _ => rfl) (by decide +kernel) (by omega)) (by omega) (fun h74 g74 w74 u74 => ?_)
              have F75 := F70.then rfl (FR.idx (p := 43) (q := 54) u74 (by omega))
              refine wi_aload_n (i := 0) (x := 236) (nx := 119) (r1 := 0) (r2 := 0) (r3 := 0) rfl rfl ?_
              refine wr_V (k0 := 236) (rest := []) (as := [.ref 236]) (nx := 122) (r1 := 219) (r2 := 0) (r3 := 11) rfl rfl rfl (of_decide_eq_true rfl) rfl rfl (by decide) rfl rfl (of_decide_eq_true rfl) (of_decide_eq_true rfl) ?_
              refine wi_aload_n (i := 0) (x := 236) (nx := 1) (r1 := 0) (r2 := 0) (r3 := 0) rfl rfl ?_
              refine wr_gi0 (k0 := 236) (x := h67 236 8) (nx := 4) (r1 := 11) (r2 := 8) (r3 := 0) rfl rfl (by decide) rfl ⟨rfl, rfl⟩ rfl (u74 236 8 (fn_a (by omega) fn_0)) ?_
              refine wi_if (cd := .ne) (nx := 7) (r1 := 11) (r2 := 0) (r3 := 0) rfl (by omega) (fun (q76 : (h67 236 8) ≠ 0) => ?_) (fun (q76 : ¬ ((h67 236 8) ≠ 0)) => ?_)
              ·
                refine wi_iconst (n := 0) (nx := 12) (r1 := 0) (r2 := 0) (r3 := 0) rfl ?_
                refine wi_zreturn (nx := 13) (r1 := 0) (r2 := 0) (r3 := 0) rfl rfl (by omega) ?_
                refine wk_i ?_
                refine wi_if (cd := .eq) (nx := 125) (r1 := 135) (r2 := 0) (r3 := 0) rfl (by omega) (fun (q77 : 0 = 0) => ?_) (fun (q77 : ¬ (0 = 0)) => by exfalso; omega)
                refine wi_return (nx := 136) (r1 := 0) (r2 := 0) (r3 := 0) rfl rfl ?_
                have e78 : h74 236 4 = h67 236 4 := (u74 236 4 (fn_a (by omega) fn_0))
                have e79 : h74 236 8 = h67 236 8 := (u74 236 8 (fn_a (by omega) fn_0))
                have e80 : h74 239 5 = h 239 5 := ((u74 239 5 (fn_i (by omega) fn_0)).trans ((u67 239 5 rfl).trans ((u60 239 5 rfl).trans ((u50 239 5 (fn_i (by omega) fn_0)).trans ((u42 239 5 rfl).trans ((u39 239 5 (fn_i (by omega) fn_0)).trans ((u31 239 5 rfl).trans ((u20 239 5 rfl).trans (u14 239 5 rfl)))))))))
                have e81 : h74 239 7 = h 239 7 := ((u74 239 7 (fn_i (by omega) fn_0)).trans ((u67 239 7 rfl).trans ((u60 239 7 rfl).trans ((u50 239 7 (fn_i (by omega) fn_0)).trans ((u42 239 7 rfl).trans ((u39 239 7 (fn_i (by omega) fn_0)).trans ((u31 239 7 rfl).trans ((u20 239 7 rfl).trans (u14 239 7 rfl)))))))))
                have e82 : h74 239 15 = h 239 15 := ((u74 239 15 (fn_i (by omega) fn_0)).trans ((u67 239 15 rfl).trans ((u60 239 15 rfl).trans ((u50 239 15 (fn_i (by omega) fn_0)).trans ((u42 239 15 rfl).trans ((u39 239 15 (fn_i (by omega) fn_0)).trans ((u31 239 15 rfl).trans ((u20 239 15 rfl).trans (u14 239 15 rfl)))))))))
                have e83 : h74 239 16 = h 239 16 := ((u74 239 16 (fn_i (by omega) fn_0)).trans ((u67 239 16 rfl).trans ((u60 239 16 rfl).trans ((u50 239 16 (fn_i (by omega) fn_0)).trans ((u42 239 16 rfl).trans ((u39 239 16 (fn_i (by omega) fn_0)).trans ((u31 239 16 rfl).trans ((u20 239 16 rfl).trans (u14 239 16 rfl)))))))))
                have e84 : h74 239 17 = h 239 17 := ((u74 239 17 (fn_i (by omega) fn_0)).trans ((u67 239 17 rfl).trans ((u60 239 17 rfl).trans ((u50 239 17 (fn_i (by omega) fn_0)).trans ((u42 239 17 rfl).trans ((u39 239 17 (fn_i (by omega) fn_0)).trans ((u31 239 17 rfl).trans ((u20 239 17 rfl).trans (u14 239 17 rfl)))))))))
                have e85 : h74 239 18 = h 239 18 := ((u74 239 18 (fn_i (by omega) fn_0)).trans ((u67 239 18 rfl).trans ((u60 239 18 rfl).trans ((u50 239 18 (fn_i (by omega) fn_0)).trans ((u42 239 18 rfl).trans ((u39 239 18 (fn_i (by omega) fn_0)).trans ((u31 239 18 rfl).trans ((u20 239 18 rfl).trans (u14 239 18 rfl)))))))))
                exact k h74 g74 F75 (show (h 236 4) ≤ (h74 236 4) by omega) (show (h74 236 4) ≤ (h 236 3) by omega) (show 1 ≤ (h74 236 8) ∨ ((h74 239 5) ≤ 9 ∧ 1 ≤ (h74 239 5) ∧ (h74 239 7) ≤ 3 ∧ (h74 239 15) ≤ 6 ∧ (h74 239 16) ≤ 6 ∧ (h74 239 17) ≤ 6 ∧ (h74 239 18) ≤ 6) by omega)
              ·
                refine wi_iconst (n := 1) (nx := 8) (r1 := 0) (r2 := 0) (r3 := 0) rfl ?_
                refine wi_goto (nx := 11) (r1 := 12) (r2 := 0) (r3 := 0) rfl ?_
                refine wi_zreturn (nx := 13) (r1 := 0) (r2 := 0) (r3 := 0) rfl rfl (by omega) ?_
                refine wk_i ?_
                refine wi_if (cd := .eq) (nx := 125) (r1 := 135) (r2 := 0) (r3 := 0) rfl (by omega) (fun (q77 : 1 = 0) => by exfalso; omega) (fun (q77 : ¬ (1 = 0)) => ?_)
                refine wi_aload_n (i := 0) (x := 236) (nx := 126) (r1 := 0) (r2 := 0) (r3 := 0) rfl rfl ?_
                refine wr_gr (k0 := 236) (x := 239) (nx := 129) (r1 := 11) (r2 := 14) (r3 := 0) rfl rfl (by decide) rfl ⟨rfl, rfl⟩ rfl ?_
                refine wi_iconst (n := 2) (nx := 130) (r1 := 0) (r2 := 0) (r3 := 0) rfl ?_
                refine wi_dup2 (nx := 131) (r1 := 0) (r2 := 0) (r3 := 0) rfl rfl rfl ?_
                refine wr_ia (k0 := 239) (a := 2) (f := 2) (x := h 239 2) (nx := 132) (r1 := 0) (r2 := 0) (r3 := 0) rfl (by decide) rfl (by omega) (by omega) (by decide) ((u74 239 2 (fn_i (by omega) fn_0)).trans ((u67 239 2 rfl).trans ((u60 239 2 rfl).trans ((u50 239 2 (fn_i (by omega) fn_0)).trans ((u42 239 2 rfl).trans ((u39 239 2 (fn_i (by omega) fn_0)).trans ((u31 239 2 rfl).trans ((u20 239 2 rfl).trans (u14 239 2 rfl))))))))) ?_
                refine wi_iconst (n := 1) (nx := 133) (r1 := 0) (r2 := 0) (r3 := 0) rfl ?_
                refine wr_add (nx := 134) (r1 := 0) (r2 := 0) (r3 := 0) rfl (fun e78 (fe78 : e78 = (h 239 2) + 1) => ?_)
                refine wr_is (k0 := 239) (a := 2) (f := 2) (x := e78) (bl := 0) (bh := 12) (nx := 135) (r1 := 0) (r2 := 0) (r3 := 0) rfl (by decide) rfl (by omega) (by omega) (by decide) g74 rfl (by omega) (fun h79 g79 w79 u79 => ?_)
                have F80 := F75.then rfl u79
                refine wi_return (nx := 136) (r1 := 0) (r2 := 0) (r3 := 0) rfl rfl ?_
                have e81 : h79 236 4 = h67 236 4 := ((u79 236 4 rfl).trans (u74 236 4 (fn_a (by omega) fn_0)))
                have e82 : h79 236 8 = h67 236 8 := ((u79 236 8 rfl).trans (u74 236 8 (fn_a (by omega) fn_0)))
                have e83 : h79 239 5 = h 239 5 := ((u79 239 5 rfl).trans ((u74 239 5 (fn_i (by omega) fn_0)).trans ((u67 239 5 rfl).trans ((u60 239 5 rfl).trans ((u50 239 5 (fn_i (by omega) fn_0)).trans ((u42 239 5 rfl).trans ((u39 239 5 (fn_i (by omega) fn_0)).trans ((u31 239 5 rfl).trans ((u20 239 5 rfl).trans (u14 239 5 rfl))))))))))
                have e84 : h79 239 7 = h 239 7 := ((u79 239 7 rfl).trans ((u74 239 7 (fn_i (by omega) fn_0)).trans ((u67 239 7 rfl).trans ((u60 239 7 rfl).trans ((u50 239 7 (fn_i (by omega) fn_0)).trans ((u42 239 7 rfl).trans ((u39 239 7 (fn_i (by omega) fn_0)).trans ((u31 239 7 rfl).trans ((u20 239 7 rfl).trans (u14 239 7 rfl))))))))))
                have e85 : h79 239 15 = h 239 15 := ((u79 239 15 rfl).trans ((u74 239 15 (fn_i (by omega) fn_0)).trans ((u67 239 15 rfl).trans ((u60 239 15 rfl).trans ((u50 239 15 (fn_i (by omega) fn_0)).trans ((u42 239 15 rfl).trans ((u39 239 15 (fn_i (by omega) fn_0)).trans ((u31 239 15 rfl).trans ((u20 239 15 rfl).trans (u14 239 15 rfl))))))))))
                have e86 : h79 239 16 = h 239 16 := ((u79 239 16 rfl).trans ((u74 239 16 (fn_i (by omega) fn_0)).trans ((u67 239 16 rfl).trans ((u60 239 16 rfl).trans ((u50 239 16 (fn_i (by omega) fn_0)).trans ((u42 239 16 rfl).trans ((u39 239 16 (fn_i (by omega) fn_0)).trans ((u31 239 16 rfl).trans ((u20 239 16 rfl).trans (u14 239 16 rfl))))))))))
                have e87 : h79 239 17 = h 239 17 := ((u79 239 17 rfl).trans ((u74 239 17 (fn_i (by omega) fn_0)).trans ((u67 239 17 rfl).trans ((u60 239 17 rfl).trans ((u50 239 17 (fn_i (by omega) fn_0)).trans ((u42 239 17 rfl).trans ((u39 239 17 (fn_i (by omega) fn_0)).trans ((u31 239 17 rfl).trans ((u20 239 17 rfl).trans (u14 239 17 rfl))))))))))
                have e88 : h79 239 18 = h 239 18 := ((u79 239 18 rfl).trans ((u74 239 18 (fn_i (by omega) fn_0)).trans ((u67 239 18 rfl).trans ((u60 239 18 rfl).trans ((u50 239 18 (fn_i (by omega) fn_0)).trans ((u42 239 18 rfl).trans ((u39 239 18 (fn_i (by omega) fn_0)).trans ((u31 239 18 rfl).trans ((u20 239 18 rfl).trans (u14 239 18 rfl))))))))))
                exact k h79 g79 F80 (show (h 236 4) ≤ (h79 236 4) by omega) (show (h79 236 4) ≤ (h 236 3) by omega) (show 1 ≤ (h79 236 8) ∨ ((h79 239 5) ≤ 9 ∧ 1 ≤ (h79 239 5) ∧ (h79 239 7) ≤ 3 ∧ (h79 239 15) ≤ 6 ∧ (h79 239 16) ≤ 6 ∧ (h79 239 17) ≤ 6 ∧ (h79 239 18) ≤ 6) by omega)
      ·
        refine wi_aload_n (i := 0) (x := 236) (nx := 45) (r1 := 0) (r2 := 0) (r3 := 0) rfl rfl ?_
        refine wi_iconst (n := 4) (nx := 46) (r1 := 0) (r2 := 0) (r3 := 0) rfl ?_
        refine wr_V (k0 := 236) (rest := []) (as := [.ref 236, vi 4]) (nx := 49) (r1 := 224) (r2 := 1) (r3 := 11) rfl rfl rfl (of_decide_eq_true rfl) rfl rfl (by decide) rfl rfl (of_decide_eq_true rfl) (of_decide_eq_true rfl) ?_
        refine ct_224_236 hcr  g20 4 (by omega)  (fun h29 g29 u29 (p29_0 : 1 ≤ (h29 236 8)) => ?_)
        have F30 := F21.then (by decide +kernel) u29
        have b31 := gi_b (lo := 0) (hi := 5) g29 236 8 rfl
        refine wk_n ?_
        refine wi_aload_n (i := 0) (x := 236) (nx := 50) (r1 := 0) (r2 := 0) (r3 := 0) rfl rfl ?_
        refine wr_V (k0 := 236) (rest := []) (as := [.ref 236]) (nx := 53) (r1 := 219) (r2 := 0) (r3 := 11) rfl rfl rfl (of_decide_eq_true rfl) rfl rfl (by decide) rfl rfl (of_decide_eq_true rfl) (of_decide_eq_true rfl) ?_
        refine wi_aload_n (i := 0) (x := 236) (nx := 1) (r1 := 0) (r2 := 0) (r3 := 0) rfl rfl ?_
        refine wr_gi0 (k0 := 236) (x := h29 236 8) (nx := 4) (r1 := 11) (r2 := 8) (r3 := 0) rfl rfl (by decide) rfl ⟨rfl, rfl⟩ rfl rfl ?_
        refine wi_if (cd := .ne) (nx := 7) (r1 := 11) (r2 := 0) (r3 := 0) rfl (by omega) (fun (q32 : (h29 236 8) ≠ 0) => ?_) (fun (q32 : ¬ ((h29 236 8) ≠ 0)) => by exfalso; omega)
        refine wi_iconst (n := 0) (nx := 12) (r1 := 0) (r2 := 0) (r3 := 0) rfl ?_
        refine wi_zreturn (nx := 13) (r1 := 0) (r2 := 0) (r3 := 0) rfl rfl (by omega) ?_
        refine wk_i ?_
        refine wi_if (cd := .ne) (nx := 56) (r1 := 57) (r2 := 0) (r3 := 0) rfl (by omega) (fun (q33 : 0 ≠ 0) => by exfalso; omega) (fun (q33 : ¬ (0 ≠ 0)) => ?_)
        refine wi_return (nx := 57) (r1 := 0) (r2 := 0) (r3 := 0) rfl rfl ?_
        have e34 : h29 236 4 = h14 236 4 := ((u29 236 4 rfl).trans (u20 236 4 rfl))
        have e35 : h29 239 5 = h 239 5 := ((u29 239 5 rfl).trans ((u20 239 5 rfl).trans (u14 239 5 rfl)))
        have e36 : h29 239 7 = h 239 7 := ((u29 239 7 rfl).trans ((u20 239 7 rfl).trans (u14 239 7 rfl)))
        have e37 : h29 239 15 = h 239 15 := ((u29 239 15 rfl).trans ((u20 239 15 rfl).trans (u14 239 15 rfl)))
        have e38 : h29 239 16 = h 239 16 := ((u29 239 16 rfl).trans ((u20 239 16 rfl).trans (u14 239 16 rfl)))
        have e39 : h29 239 17 = h 239 17 := ((u29 239 17 rfl).trans ((u20 239 17 rfl).trans (u14 239 17 rfl)))
        have e40 : h29 239 18 = h 239 18 := ((u29 239 18 rfl).trans ((u20 239 18 rfl).trans (u14 239 18 rfl)))
        exact k h29 g29 F30 (show (h 236 4) ≤ (h29 236 4) by omega) (show (h29 236 4) ≤ (h 236 3) by omega) (show 1 ≤ (h29 236 8) ∨ ((h29 239 5) ≤ 9 ∧ 1 ≤ (h29 239 5) ∧ (h29 239 7) ≤ 3 ∧ (h29 239 15) ≤ 6 ∧ (h29 239 16) ≤ 6 ∧ (h29 239 17) ≤ 6 ∧ (h29 239 18) ≤ 6) by omega)
  ·
    refine wi_aload_n (i := 0) (x := 236) (nx := 11) (r1 := 0) (r2 := 0) (r3 := 0) rfl rfl ?_
    refine wi_iconst (n := 5) (nx := 12) (r1 := 0) (r2 := 0) (r3 := 0) rfl ?_
    refine wr_V (k0 := 236) (rest := []) (as := [.ref 236, vi 5]) (nx := 15) (r1 := 224) (r2 := 1) (r3 := 11) rfl rfl rfl (of_decide_eq_true rfl) rfl rfl (by decide) rfl rfl (of_decide_eq_true rfl) (of_decide_eq_true rfl) ?_
    refine ct_224_236 hcr  g 5 (by omega)  (fun h12 g12 u12 (p12_0 : 1 ≤ (h12 236 8)) => ?_)
    have F13 := F0.then (by decide +kernel) u12
    have b14 := gi_b (lo := 0) (hi := 5) g12 236 8 rfl
    refine wk_n ?_
    refine wi_aload_n (i := 0) (x := 236) (nx := 16) (r1 := 0) (r2 := 0) (r3 := 0) rfl rfl ?_
    refine wr_V (k0 := 236) (rest := []) (as := [.ref 236]) (nx := 19) (r1 := 219) (r2 := 0) (r3 := 11) rfl rfl rfl (of_decide_eq_true rfl) rfl rfl (by decide) rfl rfl (of_decide_eq_true rfl) (of_decide_eq_true rfl) ?_
    refine wi_aload_n (i := 0) (x := 236) (nx := 1) (r1 := 0) (r2 := 0) (r3 := 0) rfl rfl ?_
    refine wr_gi0 (k0 := 236) (x := h12 236 8) (nx := 4) (r1 := 11) (r2 := 8) (r3 := 0) rfl rfl (by decide) rfl ⟨rfl, rfl⟩ rfl rfl ?_
    refine wi_if (cd := .ne) (nx := 7) (r1 := 11) (r2 := 0) (r3 := 0) rfl (by omega) (fun (q15 : (h12 236 8) ≠ 0) => ?_) (fun (q15 : ¬ ((h12 236 8) ≠ 0)) => by exfalso; omega)
    refine wi_iconst (n := 0) (nx := 12) (r1 := 0) (r2 := 0) (r3 := 0) rfl ?_
    refine wi_zreturn (nx := 13) (r1 := 0) (r2 := 0) (r3 := 0) rfl rfl (by omega) ?_
    refine wk_i ?_
    refine wi_if (cd := .eq) (nx := 22) (r1 := 26) (r2 := 0) (r3 := 0) rfl (by omega) (fun (q16 : 0 = 0) => ?_) (fun (q16 : ¬ (0 = 0)) => by exfalso; omega)
    refine wi_aload_n (i := 0) (x := 236) (nx := 27) (r1 := 0) (r2 := 0) (r3 := 0) rfl rfl ?_
    refine wr_V (k0 := 236) (rest := []) (as := [.ref 236]) (nx := 30) (r1 := 219) (r2 := 0) (r3 := 11) rfl rfl rfl (of_decide_eq_true rfl) rfl rfl (by decide) rfl rfl (of_decide_eq_true rfl) (of_decide_eq_true rfl) ?_
    refine wi_aload_n (i := 0) (x := 236) (nx := 1) (r1 := 0) (r2 := 0) (r3 := 0) rfl rfl ?_
    refine wr_gi0 (k0 := 236) (x := h12 236 8) (nx := 4) (r1 := 11) (r2 := 8) (r3 := 0) rfl rfl (by decide) rfl ⟨rfl, rfl⟩ rfl rfl ?_
    refine wi_if (cd := .ne) (nx := 7) (r1 := 11) (r2 := 0) (r3 := 0) rfl (by omega) (fun (q17 : (h12 236 8) ≠ 0) => ?_) (fun (q17 : ¬ ((h12 236 8) ≠ 0)) => by exfalso; omega)
    refine wi_iconst (n := 0) (nx := 12) (r1 := 0) (r2 := 0) (r3 := 0) rfl ?_
    refine wi_zreturn (nx := 13) (r1 := 0) (r2 := 0) (r3 := 0) rfl rfl (by omega) ?_
    refine wk_i ?_
    refine wi_zreturn (nx := 31) (r1 := 0) (r2 := 0) (r3 := 0) rfl rfl (by omega) ?_
    refine wk_i ?_
    refine wi_if (cd := .ne) (nx := 17) (r1 := 18) (r2 := 0) (r3 := 0) rfl (by omega) (fun (q18 : 0 ≠ 0) => by exfalso; omega) (fun (q18 : ¬ (0 ≠ 0)) => ?_)
    refine wi_return (nx := 18) (r1 := 0) (r2 := 0) (r3 := 0) rfl rfl ?_
    have e19 : h12 236 4 = h 236 4 := (u12 236 4 rfl)
    have e20 : h12 239 5 = h 239 5 := (u12 239 5 rfl)
    have e21 : h12 239 7 = h 239 7 := (u12 239 7 rfl)
    have e22 : h12 239 15 = h 239 15 := (u12 239 15 rfl)
    have e23 : h12 239 16 = h 239 16 := (u12 239 16 rfl)
    have e24 : h12 239 17 = h 239 17 := (u12 239 17 rfl)
    have e25 : h12 239 18 = h 239 18 := (u12 239 18 rfl)
    exact k h12 g12 F13 (show (h 236 4) ≤ (h12 236 4) by omega) (show (h12 236 4) ≤ (h 236 3) by omega) (show 1 ≤ (h12 236 8) ∨ ((h12 239 5) ≤ 9 ∧ 1 ≤ (h12 239 5) ∧ (h12 239 7) ≤ 3 ∧ (h12 239 15) ≤ 6 ∧ (h12 239 16) ≤ 6 ∧ (h12 239 17) ≤ 6 ∧ (h12 239 18) ≤ 6) by omega)
-- method 232: Model.readsLane()V
set_option maxHeartbeats 100000000 in
theorem ct_232_236 {L : Nat} {xs : Nat → Int32} {d b c : Nat} {h : hp} {cr : Nat → Nat → Option Nat} {Q : hp_Q} (hcr : CR cr)  (g : GI h)   (pp0 : h 236 4 ≤ h 236 3) (pp1 : h 236 8 = 0) (pp2 : h 239 5 ≤ 9) (pp3 : 1 ≤ h 239 5) (pp4 : h 239 7 ≤ 3) (pp5 : h 239 15 ≤ 6) (pp6 : h 239 16 ≤ 6) (pp7 : h 239 17 ≤ 6) (pp8 : h 239 18 ≤ 6) (k : ∀ (h2 : hp) , GI h2 → FR [(236, 236, some (4, 4)), (236, 236, some (5, 5)), (236, 236, some (6, 6)), (236, 236, some (7, 7)), (236, 236, some (8, 8)), (236, 236, some (9, 9)), (236, 236, some (12, 12)), (239, 239, some (1, 1)), (239, 239, some (15, 15)), (239, 239, some (16, 16)), (239, 239, some (17, 17)), (239, 239, some (18, 18))] h h2 → (h 236 4 ≤ h2 236 4) → (h2 236 4 ≤ h 236 3) → (1 ≤ h2 236 8 ∨ (h2 239 5 ≤ 9 ∧ 1 ≤ h2 239 5 ∧ h2 239 7 ≤ 3 ∧ h2 239 15 ≤ 6 ∧ h2 239 16 ≤ 6 ∧ h2 239 17 ≤ 6 ∧ h2 239 18 ≤ 6)) → Q (.inl none) (hp_w h2 cr) b c) : wp (md_xa (L, xs)) (d + 3) 232 (0, [(0, .ref 236)], [], hp_w h cr, b, c) Q := by
  have F0 : FR [(236, 236, some (4, 4)), (236, 236, some (5, 5)), (236, 236, some (6, 6)), (236, 236, some (7, 7)), (236, 236, some (8, 8)), (236, 236, some (9, 9)), (236, 236, some (12, 12)), (239, 239, some (1, 1)), (239, 239, some (15, 15)), (239, 239, some (16, 16)), (239, 239, some (17, 17)), (239, 239, some (18, 18))] h h := FR.refl
  have b1 := gi_b (lo := 0) (hi := 800) g 236 4 rfl
  have b2 := gi_b (lo := 0) (hi := 800) g 236 3 rfl
  have b3 := gi_b (lo := 0) (hi := 5) g 236 8 rfl
  have b4 := gi_b (lo := 0) (hi := 999) g 239 5 rfl
  have b5 := gi_b (lo := 0) (hi := 999) g 239 7 rfl
  have b6 := gi_b (lo := 0) (hi := 999) g 239 15 rfl
  have b7 := gi_b (lo := 0) (hi := 999) g 239 16 rfl
  have b8 := gi_b (lo := 0) (hi := 999) g 239 17 rfl
  have b9 := gi_b (lo := 0) (hi := 999) g 239 18 rfl
  refine wi_aload_n (i := 0) (x := 236) (nx := 1) (r1 := 0) (r2 := 0) (r3 := 0) rfl rfl ?_
  refine wr_gr (k0 := 236) (x := 239) (nx := 4) (r1 := 11) (r2 := 14) (r3 := 0) rfl rfl (by decide) rfl ⟨rfl, rfl⟩ rfl ?_
  refine wi_iconst (n := 1) (nx := 5) (r1 := 0) (r2 := 0) (r3 := 0) rfl ?_
  have b10 := gi_b (lo := 0) (hi := 4) g 239 1 rfl
  rcases (show (h 239 1) = 0 ∨ (h 239 1) = 1 ∨ (h 239 1) = 2 ∨ (h 239 1) = 3 ∨ (h 239 1) = 4 by omega) with q11 | q11 | q11 | q11 | q11
  ·
    refine wr_ia (k0 := 239) (a := 1) (f := 1) (x := 0) (nx := 6) (r1 := 0) (r2 := 0) (r3 := 0) rfl (by decide) rfl (by omega) (by omega) (by decide) q11 ?_
    refine wi_istore_n (i := 1) (e := 0) (lo2 := [(1, vi 0), (0, .ref 236)]) (nx := 7) (r1 := 0) (r2 := 0) (r3 := 0) rfl rfl ?_
    refine wi_aload_n (i := 0) (x := 236) (nx := 8) (r1 := 0) (r2 := 0) (r3 := 0) rfl rfl ?_
    refine wi_iconst (n := 1) (nx := 9) (r1 := 0) (r2 := 0) (r3 := 0) rfl ?_
    refine wi_iconst (n := 4) (nx := 10) (r1 := 0) (r2 := 0) (r3 := 0) rfl ?_
    refine wr_V (k0 := 236) (rest := []) (as := [.ref 236, vi 1, vi 4]) (nx := 13) (r1 := 223) (r2 := 2) (r3 := 11) rfl rfl rfl (of_decide_eq_true rfl) rfl rfl (by decide) rfl rfl (of_decide_eq_true rfl) (of_decide_eq_true rfl) ?_
    refine wi_aload_n (i := 0) (x := 236) (nx := 1) (r1 := 0) (r2 := 0) (r3 := 0) rfl rfl ?_
    refine wr_gr (k0 := 236) (x := 239) (nx := 4) (r1 := 11) (r2 := 14) (r3 := 0) rfl rfl (by decide) rfl ⟨rfl, rfl⟩ rfl ?_
    refine wi_iload_n (i := 1) (e := 1) (nx := 5) (r1 := 0) (r2 := 0) (r3 := 0) rfl rfl ?_
    refine wr_ia (k0 := 239) (a := 1) (f := 1) (x := 0) (nx := 6) (r1 := 0) (r2 := 0) (r3 := 0) rfl (by decide) rfl (by omega) (by omega) (by decide) q11 ?_
    refine wi_iload_n (i := 2) (e := 4) (nx := 7) (r1 := 0) (r2 := 0) (r3 := 0) rfl rfl ?_
    refine wi_icmp (cd := .ne) (nx := 10) (r1 := 15) (r2 := 0) (r3 := 0) rfl (by omega) (by omega) (fun (q12 : 0 ≠ 4) => ?_) (fun (q12 : ¬ (0 ≠ 4)) => by exfalso; omega)
    refine wi_aload_n (i := 0) (x := 236) (nx := 16) (r1 := 0) (r2 := 0) (r3 := 0) rfl rfl ?_
    refine wr_V (k0 := 236) (rest := []) (as := [.ref 236]) (nx := 19) (r1 := 219) (r2 := 0) (r3 := 11) rfl rfl rfl (of_decide_eq_true rfl) rfl rfl (by decide) rfl rfl (of_decide_eq_true rfl) (of_decide_eq_true rfl) ?_
    refine wi_aload_n (i := 0) (x := 236) (nx := 1) (r1 := 0) (r2 := 0) (r3 := 0) rfl rfl ?_
    refine wr_gi0 (k0 := 236) (x := h 236 8) (nx := 4) (r1 := 11) (r2 := 8) (r3 := 0) rfl rfl (by decide) rfl ⟨rfl, rfl⟩ rfl rfl ?_
    refine wi_if (cd := .ne) (nx := 7) (r1 := 11) (r2 := 0) (r3 := 0) rfl (by omega) (fun (q13 : (h 236 8) ≠ 0) => by exfalso; omega) (fun (q13 : ¬ ((h 236 8) ≠ 0)) => ?_)
    refine wi_iconst (n := 1) (nx := 8) (r1 := 0) (r2 := 0) (r3 := 0) rfl ?_
    refine wi_goto (nx := 11) (r1 := 12) (r2 := 0) (r3 := 0) rfl ?_
    refine wi_zreturn (nx := 13) (r1 := 0) (r2 := 0) (r3 := 0) rfl rfl (by omega) ?_
    refine wk_i ?_
    refine wi_if (cd := .eq) (nx := 22) (r1 := 26) (r2 := 0) (r3 := 0) rfl (by omega) (fun (q14 : 1 = 0) => by exfalso; omega) (fun (q14 : ¬ (1 = 0)) => ?_)
    refine wi_aload_n (i := 0) (x := 236) (nx := 23) (r1 := 0) (r2 := 0) (r3 := 0) rfl rfl ?_
    refine wr_V (k0 := 236) (rest := []) (as := [.ref 236]) (nx := 26) (r1 := 215) (r2 := 0) (r3 := 11) rfl rfl rfl (of_decide_eq_true rfl) rfl rfl (by decide) rfl rfl (of_decide_eq_true rfl) (of_decide_eq_true rfl) ?_
    refine ct_215_236 hcr  g   (show (h 236 4) ≤ (h 236 3) by omega) (fun h15 g15 u15 (p15_0 : (h 236 4) ≤ (h15 236 4)) (p15_1 : (h15 236 4) ≤ (h 236 3)) (p15_2 : (h15 236 6) = 0 ∨ (h 236 4) + 1 ≤ (h15 236 4)) => ?_)
    have F16 := F0.then (by decide +kernel) u15
    have b17 := gi_b (lo := 0) (hi := 800) g15 236 4 rfl
    have b18 := gi_b (lo := 0) (hi := 4) g15 236 6 rfl
    refine wk_n ?_
    refine wi_aload_n (i := 0) (x := 236) (nx := 27) (r1 := 0) (r2 := 0) (r3 := 0) rfl rfl ?_
    refine wr_V (k0 := 236) (rest := []) (as := [.ref 236]) (nx := 30) (r1 := 219) (r2 := 0) (r3 := 11) rfl rfl rfl (of_decide_eq_true rfl) rfl rfl (by decide) rfl rfl (of_decide_eq_true rfl) (of_decide_eq_true rfl) ?_
    refine wi_aload_n (i := 0) (x := 236) (nx := 1) (r1 := 0) (r2 := 0) (r3 := 0) rfl rfl ?_
    refine wr_gi0 (k0 := 236) (x := h 236 8) (nx := 4) (r1 := 11) (r2 := 8) (r3 := 0) rfl rfl (by decide) rfl ⟨rfl, rfl⟩ rfl (u15 236 8 rfl) ?_
    refine wi_if (cd := .ne) (nx := 7) (r1 := 11) (r2 := 0) (r3 := 0) rfl (by omega) (fun (q19 : (h 236 8) ≠ 0) => by exfalso; omega) (fun (q19 : ¬ ((h 236 8) ≠ 0)) => ?_)
    refine wi_iconst (n := 1) (nx := 8) (r1 := 0) (r2 := 0) (r3 := 0) rfl ?_
    refine wi_goto (nx := 11) (r1 := 12) (r2 := 0) (r3 := 0) rfl ?_
    refine wi_zreturn (nx := 13) (r1 := 0) (r2 := 0) (r3 := 0) rfl rfl (by omega) ?_
    refine wk_i ?_
    refine wi_zreturn (nx := 31) (r1 := 0) (r2 := 0) (r3 := 0) rfl rfl (by omega) ?_
    refine wk_i ?_
    refine wi_if (cd := .ne) (nx := 16) (r1 := 17) (r2 := 0) (r3 := 0) rfl (by omega) (fun (q20 : 1 ≠ 0) => ?_) (fun (q20 : ¬ (1 ≠ 0)) => by exfalso; omega)
    refine wi_aload_n (i := 0) (x := 236) (nx := 18) (r1 := 0) (r2 := 0) (r3 := 0) rfl rfl ?_
    refine wr_gr (k0 := 236) (x := 239) (nx := 21) (r1 := 11) (r2 := 14) (r3 := 0) rfl rfl (by decide) rfl ⟨rfl, rfl⟩ rfl ?_
    refine wi_bipush (n := 15) (nx := 23) (r1 := 0) (r2 := 0) (r3 := 0) rfl (by decide) ?_
    refine wi_iload_n (i := 1) (e := 0) (nx := 24) (r1 := 0) (r2 := 0) (r3 := 0) rfl rfl ?_
    refine wr_addL (15) (nx := 25) (r1 := 0) (r2 := 0) (r3 := 0) rfl (by decide) ?_
    refine wi_aload_n (i := 0) (x := 236) (nx := 26) (r1 := 0) (r2 := 0) (r3 := 0) rfl rfl ?_
    refine wi_iconst (n := 1) (nx := 27) (r1 := 0) (r2 := 0) (r3 := 0) rfl ?_
    refine wi_bipush (n := 6) (nx := 29) (r1 := 0) (r2 := 0) (r3 := 0) rfl (by decide) ?_
    refine wr_V (k0 := 236) (rest := [vi 15, .ref 239]) (as := [.ref 236, vi 1, vi 6]) (nx := 32) (r1 := 231) (r2 := 2) (r3 := 11) rfl rfl rfl (of_decide_eq_true rfl) rfl rfl (by decide) rfl rfl (of_decide_eq_true rfl) (of_decide_eq_true rfl) ?_
    have e22 : h15 236 3 = h 236 3 := (u15 236 3 rfl)
    refine ct_231_236 hcr  g15 1 6 (by omega) (by omega) (show (h15 236 4) ≤ (h15 236 3) by omega) (fun h21 z23 g21 u21 (fz23 : 0 ≤ z23 ∧ z23 ≤ 999) (p21_0 : (h15 236 4) ≤ (h21 236 4)) (p21_1 : (h21 236 4) ≤ (h15 236 3)) (p21_2 : 1 ≤ (h21 236 8) ∨ (h15 236 8) = 0) (p21_3 : 1 ≤ (h21 236 8) ∨ (1 ≤ z23 ∧ z23 ≤ 6)) => ?_)
    have F24 := F16.then (by decide +kernel) u21
    have b25 := gi_b (lo := 0) (hi := 800) g21 236 4 rfl
    have b26 := gi_b (lo := 0) (hi := 5) g21 236 8 rfl
    refine wk_i ?_
    refine wr_is (k0 := 239) (a := 15) (f := 15) (x := z23) (bl := 0) (bh := 999) (nx := 33) (r1 := 0) (r2 := 0) (r3 := 0) rfl (by decide) rfl (by omega) (by omega) (by decide) g21 rfl (by omega) (fun h27 g27 w27 u27 => ?_)
    have F28 := F24.then rfl u27
    refine wi_aload_n (i := 0) (x := 236) (nx := 34) (r1 := 0) (r2 := 0) (r3 := 0) rfl rfl ?_
    refine wr_V (k0 := 236) (rest := []) (as := [.ref 236]) (nx := 37) (r1 := 219) (r2 := 0) (r3 := 11) rfl rfl rfl (of_decide_eq_true rfl) rfl rfl (by decide) rfl rfl (of_decide_eq_true rfl) (of_decide_eq_true rfl) ?_
    refine wi_aload_n (i := 0) (x := 236) (nx := 1) (r1 := 0) (r2 := 0) (r3 := 0) rfl rfl ?_
    refine wr_gi0 (k0 := 236) (x := h21 236 8) (nx := 4) (r1 := 11) (r2 := 8) (r3 := 0) rfl rfl (by decide) rfl ⟨rfl, rfl⟩ rfl (u27 236 8 rfl) ?_
    refine wi_if (cd := .ne) (nx := 7) (r1 := 11) (r2 := 0) (r3 := 0) rfl (by omega) (fun (q29 : (h21 236 8) ≠ 0) => ?_) (fun (q29 : ¬ ((h21 236 8) ≠ 0)) => ?_)
    ·
      refine wi_iconst (n := 0) (nx := 12) (r1 := 0) (r2 := 0) (r3 := 0) rfl ?_
      refine wi_zreturn (nx := 13) (r1 := 0) (r2 := 0) (r3 := 0) rfl rfl (by omega) ?_
      refine wk_i ?_
      refine wi_if (cd := .eq) (nx := 40) (r1 := 50) (r2 := 0) (r3 := 0) rfl (by omega) (fun (q30 : 0 = 0) => ?_) (fun (q30 : ¬ (0 = 0)) => by exfalso; omega)
      refine wi_return (nx := 51) (r1 := 0) (r2 := 0) (r3 := 0) rfl rfl ?_
      have e31 : h27 236 4 = h21 236 4 := (u27 236 4 rfl)
      have e32 : h27 236 8 = h21 236 8 := (u27 236 8 rfl)
      have e33 : h27 239 5 = h 239 5 := ((u27 239 5 rfl).trans ((u21 239 5 rfl).trans (u15 239 5 rfl)))
      have e34 : h27 239 7 = h 239 7 := ((u27 239 7 rfl).trans ((u21 239 7 rfl).trans (u15 239 7 rfl)))
      have e35 : h27 239 15 = z23 := w27
      have e36 : h27 239 16 = h 239 16 := ((u27 239 16 rfl).trans ((u21 239 16 rfl).trans (u15 239 16 rfl)))
      have e37 : h27 239 17 = h 239 17 := ((u27 239 17 rfl).trans ((u21 239 17 rfl).trans (u15 239 17 rfl)))
      have e38 : h27 239 18 = h 239 18 := ((u27 239 18 rfl).trans ((u21 239 18 rfl).trans (u15 239 18 rfl)))
      exact k h27 g27 F28 (show (h 236 4) ≤ (h27 236 4) by omega) (show (h27 236 4) ≤ (h 236 3) by omega) (show 1 ≤ (h27 236 8) ∨ ((h27 239 5) ≤ 9 ∧ 1 ≤ (h27 239 5) ∧ (h27 239 7) ≤ 3 ∧ (h27 239 15) ≤ 6 ∧ (h27 239 16) ≤ 6 ∧ (h27 239 17) ≤ 6 ∧ (h27 239 18) ≤ 6) by omega)
    ·
      refine wi_iconst (n := 1) (nx := 8) (r1 := 0) (r2 := 0) (r3 := 0) rfl ?_
      refine wi_goto (nx := 11) (r1 := 12) (r2 := 0) (r3 := 0) rfl ?_
      refine wi_zreturn (nx := 13) (r1 := 0) (r2 := 0) (r3 := 0) rfl rfl (by omega) ?_
      refine wk_i ?_
      refine wi_if (cd := .eq) (nx := 40) (r1 := 50) (r2 := 0) (r3 := 0) rfl (by omega) (fun (q30 : 1 = 0) => by exfalso; omega) (fun (q30 : ¬ (1 = 0)) => ?_)
      refine wi_aload_n (i := 0) (x := 236) (nx := 41) (r1 := 0) (r2 := 0) (r3 := 0) rfl rfl ?_
      refine wr_gr (k0 := 236) (x := 239) (nx := 44) (r1 := 11) (r2 := 14) (r3 := 0) rfl rfl (by decide) rfl ⟨rfl, rfl⟩ rfl ?_
      refine wi_iconst (n := 1) (nx := 45) (r1 := 0) (r2 := 0) (r3 := 0) rfl ?_
      refine wi_dup2 (nx := 46) (r1 := 0) (r2 := 0) (r3 := 0) rfl rfl rfl ?_
      refine wr_ia (k0 := 239) (a := 1) (f := 1) (x := 0) (nx := 47) (r1 := 0) (r2 := 0) (r3 := 0) rfl (by decide) rfl (by omega) (by omega) (by decide) ((u27 239 1 rfl).trans ((u21 239 1 rfl).trans ((u15 239 1 rfl).trans q11))) ?_
      refine wi_iconst (n := 1) (nx := 48) (r1 := 0) (r2 := 0) (r3 := 0) rfl ?_
      refine wr_addL (1) (nx := 49) (r1 := 0) (r2 := 0) (r3 := 0) rfl (by decide) ?_
      refine wr_is (k0 := 239) (a := 1) (f := 1) (x := 1) (bl := 0) (bh := 4) (nx := 50) (r1 := 0) (r2 := 0) (r3 := 0) rfl (by decide) rfl (by omega) (by omega) (by decide) g27 rfl (by omega) (fun h31 g31 w31 u31 => ?_)
      have F32 := F28.then rfl u31
      refine wi_return (nx := 51) (r1 := 0) (r2 := 0) (r3 := 0) rfl rfl ?_
      have e33 : h31 236 4 = h21 236 4 := ((u31 236 4 rfl).trans (u27 236 4 rfl))
      have e34 : h31 236 8 = h21 236 8 := ((u31 236 8 rfl).trans (u27 236 8 rfl))
      have e35 : h31 239 5 = h 239 5 := ((u31 239 5 rfl).trans ((u27 239 5 rfl).trans ((u21 239 5 rfl).trans (u15 239 5 rfl))))
      have e36 : h31 239 7 = h 239 7 := ((u31 239 7 rfl).trans ((u27 239 7 rfl).trans ((u21 239 7 rfl).trans (u15 239 7 rfl))))
      have e37 : h31 239 15 = z23 := ((u31 239 15 rfl).trans w27)
      have e38 : h31 239 16 = h 239 16 := ((u31 239 16 rfl).trans ((u27 239 16 rfl).trans ((u21 239 16 rfl).trans (u15 239 16 rfl))))
      have e39 : h31 239 17 = h 239 17 := ((u31 239 17 rfl).trans ((u27 239 17 rfl).trans ((u21 239 17 rfl).trans (u15 239 17 rfl))))
      have e40 : h31 239 18 = h 239 18 := ((u31 239 18 rfl).trans ((u27 239 18 rfl).trans ((u21 239 18 rfl).trans (u15 239 18 rfl))))
      exact k h31 g31 F32 (show (h 236 4) ≤ (h31 236 4) by omega) (show (h31 236 4) ≤ (h 236 3) by omega) (show 1 ≤ (h31 236 8) ∨ ((h31 239 5) ≤ 9 ∧ 1 ≤ (h31 239 5) ∧ (h31 239 7) ≤ 3 ∧ (h31 239 15) ≤ 6 ∧ (h31 239 16) ≤ 6 ∧ (h31 239 17) ≤ 6 ∧ (h31 239 18) ≤ 6) by omega)
  ·
    refine wr_ia (k0 := 239) (a := 1) (f := 1) (x := 1) (nx := 6) (r1 := 0) (r2 := 0) (r3 := 0) rfl (by decide) rfl (by omega) (by omega) (by decide) q11 ?_
    refine wi_istore_n (i := 1) (e := 1) (lo2 := [(1, vi 1), (0, .ref 236)]) (nx := 7) (r1 := 0) (r2 := 0) (r3 := 0) rfl rfl ?_
    refine wi_aload_n (i := 0) (x := 236) (nx := 8) (r1 := 0) (r2 := 0) (r3 := 0) rfl rfl ?_
    refine wi_iconst (n := 1) (nx := 9) (r1 := 0) (r2 := 0) (r3 := 0) rfl ?_
    refine wi_iconst (n := 4) (nx := 10) (r1 := 0) (r2 := 0) (r3 := 0) rfl ?_
    refine wr_V (k0 := 236) (rest := []) (as := [.ref 236, vi 1, vi 4]) (nx := 13) (r1 := 223) (r2 := 2) (r3 := 11) rfl rfl rfl (of_decide_eq_true rfl) rfl rfl (by decide) rfl rfl (of_decide_eq_true rfl) (of_decide_eq_true rfl) ?_
    refine wi_aload_n (i := 0) (x := 236) (nx := 1) (r1 := 0) (r2 := 0) (r3 := 0) rfl rfl ?_
    refine wr_gr (k0 := 236) (x := 239) (nx := 4) (r1 := 11) (r2 := 14) (r3 := 0) rfl rfl (by decide) rfl ⟨rfl, rfl⟩ rfl ?_
    refine wi_iload_n (i := 1) (e := 1) (nx := 5) (r1 := 0) (r2 := 0) (r3 := 0) rfl rfl ?_
    refine wr_ia (k0 := 239) (a := 1) (f := 1) (x := 1) (nx := 6) (r1 := 0) (r2 := 0) (r3 := 0) rfl (by decide) rfl (by omega) (by omega) (by decide) q11 ?_
    refine wi_iload_n (i := 2) (e := 4) (nx := 7) (r1 := 0) (r2 := 0) (r3 := 0) rfl rfl ?_
    refine wi_icmp (cd := .ne) (nx := 10) (r1 := 15) (r2 := 0) (r3 := 0) rfl (by omega) (by omega) (fun (q12 : 1 ≠ 4) => ?_) (fun (q12 : ¬ (1 ≠ 4)) => by exfalso; omega)
    refine wi_aload_n (i := 0) (x := 236) (nx := 16) (r1 := 0) (r2 := 0) (r3 := 0) rfl rfl ?_
    refine wr_V (k0 := 236) (rest := []) (as := [.ref 236]) (nx := 19) (r1 := 219) (r2 := 0) (r3 := 11) rfl rfl rfl (of_decide_eq_true rfl) rfl rfl (by decide) rfl rfl (of_decide_eq_true rfl) (of_decide_eq_true rfl) ?_
    refine wi_aload_n (i := 0) (x := 236) (nx := 1) (r1 := 0) (r2 := 0) (r3 := 0) rfl rfl ?_
    refine wr_gi0 (k0 := 236) (x := h 236 8) (nx := 4) (r1 := 11) (r2 := 8) (r3 := 0) rfl rfl (by decide) rfl ⟨rfl, rfl⟩ rfl rfl ?_
    refine wi_if (cd := .ne) (nx := 7) (r1 := 11) (r2 := 0) (r3 := 0) rfl (by omega) (fun (q13 : (h 236 8) ≠ 0) => by exfalso; omega) (fun (q13 : ¬ ((h 236 8) ≠ 0)) => ?_)
    refine wi_iconst (n := 1) (nx := 8) (r1 := 0) (r2 := 0) (r3 := 0) rfl ?_
    refine wi_goto (nx := 11) (r1 := 12) (r2 := 0) (r3 := 0) rfl ?_
    refine wi_zreturn (nx := 13) (r1 := 0) (r2 := 0) (r3 := 0) rfl rfl (by omega) ?_
    refine wk_i ?_
    refine wi_if (cd := .eq) (nx := 22) (r1 := 26) (r2 := 0) (r3 := 0) rfl (by omega) (fun (q14 : 1 = 0) => by exfalso; omega) (fun (q14 : ¬ (1 = 0)) => ?_)
    refine wi_aload_n (i := 0) (x := 236) (nx := 23) (r1 := 0) (r2 := 0) (r3 := 0) rfl rfl ?_
    refine wr_V (k0 := 236) (rest := []) (as := [.ref 236]) (nx := 26) (r1 := 215) (r2 := 0) (r3 := 11) rfl rfl rfl (of_decide_eq_true rfl) rfl rfl (by decide) rfl rfl (of_decide_eq_true rfl) (of_decide_eq_true rfl) ?_
    refine ct_215_236 hcr  g   (show (h 236 4) ≤ (h 236 3) by omega) (fun h15 g15 u15 (p15_0 : (h 236 4) ≤ (h15 236 4)) (p15_1 : (h15 236 4) ≤ (h 236 3)) (p15_2 : (h15 236 6) = 0 ∨ (h 236 4) + 1 ≤ (h15 236 4)) => ?_)
    have F16 := F0.then (by decide +kernel) u15
    have b17 := gi_b (lo := 0) (hi := 800) g15 236 4 rfl
    have b18 := gi_b (lo := 0) (hi := 4) g15 236 6 rfl
    refine wk_n ?_
    refine wi_aload_n (i := 0) (x := 236) (nx := 27) (r1 := 0) (r2 := 0) (r3 := 0) rfl rfl ?_
    refine wr_V (k0 := 236) (rest := []) (as := [.ref 236]) (nx := 30) (r1 := 219) (r2 := 0) (r3 := 11) rfl rfl rfl (of_decide_eq_true rfl) rfl rfl (by decide) rfl rfl (of_decide_eq_true rfl) (of_decide_eq_true rfl) ?_
    refine wi_aload_n (i := 0) (x := 236) (nx := 1) (r1 := 0) (r2 := 0) (r3 := 0) rfl rfl ?_
    refine wr_gi0 (k0 := 236) (x := h 236 8) (nx := 4) (r1 := 11) (r2 := 8) (r3 := 0) rfl rfl (by decide) rfl ⟨rfl, rfl⟩ rfl (u15 236 8 rfl) ?_
    refine wi_if (cd := .ne) (nx := 7) (r1 := 11) (r2 := 0) (r3 := 0) rfl (by omega) (fun (q19 : (h 236 8) ≠ 0) => by exfalso; omega) (fun (q19 : ¬ ((h 236 8) ≠ 0)) => ?_)
    refine wi_iconst (n := 1) (nx := 8) (r1 := 0) (r2 := 0) (r3 := 0) rfl ?_
    refine wi_goto (nx := 11) (r1 := 12) (r2 := 0) (r3 := 0) rfl ?_
    refine wi_zreturn (nx := 13) (r1 := 0) (r2 := 0) (r3 := 0) rfl rfl (by omega) ?_
    refine wk_i ?_
    refine wi_zreturn (nx := 31) (r1 := 0) (r2 := 0) (r3 := 0) rfl rfl (by omega) ?_
    refine wk_i ?_
    refine wi_if (cd := .ne) (nx := 16) (r1 := 17) (r2 := 0) (r3 := 0) rfl (by omega) (fun (q20 : 1 ≠ 0) => ?_) (fun (q20 : ¬ (1 ≠ 0)) => by exfalso; omega)
    refine wi_aload_n (i := 0) (x := 236) (nx := 18) (r1 := 0) (r2 := 0) (r3 := 0) rfl rfl ?_
    refine wr_gr (k0 := 236) (x := 239) (nx := 21) (r1 := 11) (r2 := 14) (r3 := 0) rfl rfl (by decide) rfl ⟨rfl, rfl⟩ rfl ?_
    refine wi_bipush (n := 15) (nx := 23) (r1 := 0) (r2 := 0) (r3 := 0) rfl (by decide) ?_
    refine wi_iload_n (i := 1) (e := 1) (nx := 24) (r1 := 0) (r2 := 0) (r3 := 0) rfl rfl ?_
    refine wr_addL (16) (nx := 25) (r1 := 0) (r2 := 0) (r3 := 0) rfl (by decide) ?_
    refine wi_aload_n (i := 0) (x := 236) (nx := 26) (r1 := 0) (r2 := 0) (r3 := 0) rfl rfl ?_
    refine wi_iconst (n := 1) (nx := 27) (r1 := 0) (r2 := 0) (r3 := 0) rfl ?_
    refine wi_bipush (n := 6) (nx := 29) (r1 := 0) (r2 := 0) (r3 := 0) rfl (by decide) ?_
    refine wr_V (k0 := 236) (rest := [vi 16, .ref 239]) (as := [.ref 236, vi 1, vi 6]) (nx := 32) (r1 := 231) (r2 := 2) (r3 := 11) rfl rfl rfl (of_decide_eq_true rfl) rfl rfl (by decide) rfl rfl (of_decide_eq_true rfl) (of_decide_eq_true rfl) ?_
    have e22 : h15 236 3 = h 236 3 := (u15 236 3 rfl)
    refine ct_231_236 hcr  g15 1 6 (by omega) (by omega) (show (h15 236 4) ≤ (h15 236 3) by omega) (fun h21 z23 g21 u21 (fz23 : 0 ≤ z23 ∧ z23 ≤ 999) (p21_0 : (h15 236 4) ≤ (h21 236 4)) (p21_1 : (h21 236 4) ≤ (h15 236 3)) (p21_2 : 1 ≤ (h21 236 8) ∨ (h15 236 8) = 0) (p21_3 : 1 ≤ (h21 236 8) ∨ (1 ≤ z23 ∧ z23 ≤ 6)) => ?_)
    have F24 := F16.then (by decide +kernel) u21
    have b25 := gi_b (lo := 0) (hi := 800) g21 236 4 rfl
    have b26 := gi_b (lo := 0) (hi := 5) g21 236 8 rfl
    refine wk_i ?_
    refine wr_is (k0 := 239) (a := 16) (f := 16) (x := z23) (bl := 0) (bh := 999) (nx := 33) (r1 := 0) (r2 := 0) (r3 := 0) rfl (by decide) rfl (by omega) (by omega) (by decide) g21 rfl (by omega) (fun h27 g27 w27 u27 => ?_)
    have F28 := F24.then rfl u27
    refine wi_aload_n (i := 0) (x := 236) (nx := 34) (r1 := 0) (r2 := 0) (r3 := 0) rfl rfl ?_
    refine wr_V (k0 := 236) (rest := []) (as := [.ref 236]) (nx := 37) (r1 := 219) (r2 := 0) (r3 := 11) rfl rfl rfl (of_decide_eq_true rfl) rfl rfl (by decide) rfl rfl (of_decide_eq_true rfl) (of_decide_eq_true rfl) ?_
    refine wi_aload_n (i := 0) (x := 236) (nx := 1) (r1 := 0) (r2 := 0) (r3 := 0) rfl rfl ?_
    refine wr_gi0 (k0 := 236) (x := h21 236 8) (nx := 4) (r1 := 11) (r2 := 8) (r3 := 0) rfl rfl (by decide) rfl ⟨rfl, rfl⟩ rfl (u27 236 8 rfl) ?_
    refine wi_if (cd := .ne) (nx := 7) (r1 := 11) (r2 := 0) (r3 := 0) rfl (by omega) (fun (q29 : (h21 236 8) ≠ 0) => ?_) (fun (q29 : ¬ ((h21 236 8) ≠ 0)) => ?_)
    ·
      refine wi_iconst (n := 0) (nx := 12) (r1 := 0) (r2 := 0) (r3 := 0) rfl ?_
      refine wi_zreturn (nx := 13) (r1 := 0) (r2 := 0) (r3 := 0) rfl rfl (by omega) ?_
      refine wk_i ?_
      refine wi_if (cd := .eq) (nx := 40) (r1 := 50) (r2 := 0) (r3 := 0) rfl (by omega) (fun (q30 : 0 = 0) => ?_) (fun (q30 : ¬ (0 = 0)) => by exfalso; omega)
      refine wi_return (nx := 51) (r1 := 0) (r2 := 0) (r3 := 0) rfl rfl ?_
      have e31 : h27 236 4 = h21 236 4 := (u27 236 4 rfl)
      have e32 : h27 236 8 = h21 236 8 := (u27 236 8 rfl)
      have e33 : h27 239 5 = h 239 5 := ((u27 239 5 rfl).trans ((u21 239 5 rfl).trans (u15 239 5 rfl)))
      have e34 : h27 239 7 = h 239 7 := ((u27 239 7 rfl).trans ((u21 239 7 rfl).trans (u15 239 7 rfl)))
      have e35 : h27 239 15 = h 239 15 := ((u27 239 15 rfl).trans ((u21 239 15 rfl).trans (u15 239 15 rfl)))
      have e36 : h27 239 16 = z23 := w27
      have e37 : h27 239 17 = h 239 17 := ((u27 239 17 rfl).trans ((u21 239 17 rfl).trans (u15 239 17 rfl)))
      have e38 : h27 239 18 = h 239 18 := ((u27 239 18 rfl).trans ((u21 239 18 rfl).trans (u15 239 18 rfl)))
      exact k h27 g27 F28 (show (h 236 4) ≤ (h27 236 4) by omega) (show (h27 236 4) ≤ (h 236 3) by omega) (show 1 ≤ (h27 236 8) ∨ ((h27 239 5) ≤ 9 ∧ 1 ≤ (h27 239 5) ∧ (h27 239 7) ≤ 3 ∧ (h27 239 15) ≤ 6 ∧ (h27 239 16) ≤ 6 ∧ (h27 239 17) ≤ 6 ∧ (h27 239 18) ≤ 6) by omega)
    ·
      refine wi_iconst (n := 1) (nx := 8) (r1 := 0) (r2 := 0) (r3 := 0) rfl ?_
      refine wi_goto (nx := 11) (r1 := 12) (r2 := 0) (r3 := 0) rfl ?_
      refine wi_zreturn (nx := 13) (r1 := 0) (r2 := 0) (r3 := 0) rfl rfl (by omega) ?_
      refine wk_i ?_
      refine wi_if (cd := .eq) (nx := 40) (r1 := 50) (r2 := 0) (r3 := 0) rfl (by omega) (fun (q30 : 1 = 0) => by exfalso; omega) (fun (q30 : ¬ (1 = 0)) => ?_)
      refine wi_aload_n (i := 0) (x := 236) (nx := 41) (r1 := 0) (r2 := 0) (r3 := 0) rfl rfl ?_
      refine wr_gr (k0 := 236) (x := 239) (nx := 44) (r1 := 11) (r2 := 14) (r3 := 0) rfl rfl (by decide) rfl ⟨rfl, rfl⟩ rfl ?_
      refine wi_iconst (n := 1) (nx := 45) (r1 := 0) (r2 := 0) (r3 := 0) rfl ?_
      refine wi_dup2 (nx := 46) (r1 := 0) (r2 := 0) (r3 := 0) rfl rfl rfl ?_
      refine wr_ia (k0 := 239) (a := 1) (f := 1) (x := 1) (nx := 47) (r1 := 0) (r2 := 0) (r3 := 0) rfl (by decide) rfl (by omega) (by omega) (by decide) ((u27 239 1 rfl).trans ((u21 239 1 rfl).trans ((u15 239 1 rfl).trans q11))) ?_
      refine wi_iconst (n := 1) (nx := 48) (r1 := 0) (r2 := 0) (r3 := 0) rfl ?_
      refine wr_addL (2) (nx := 49) (r1 := 0) (r2 := 0) (r3 := 0) rfl (by decide) ?_
      refine wr_is (k0 := 239) (a := 1) (f := 1) (x := 2) (bl := 0) (bh := 4) (nx := 50) (r1 := 0) (r2 := 0) (r3 := 0) rfl (by decide) rfl (by omega) (by omega) (by decide) g27 rfl (by omega) (fun h31 g31 w31 u31 => ?_)
      have F32 := F28.then rfl u31
      refine wi_return (nx := 51) (r1 := 0) (r2 := 0) (r3 := 0) rfl rfl ?_
      have e33 : h31 236 4 = h21 236 4 := ((u31 236 4 rfl).trans (u27 236 4 rfl))
      have e34 : h31 236 8 = h21 236 8 := ((u31 236 8 rfl).trans (u27 236 8 rfl))
      have e35 : h31 239 5 = h 239 5 := ((u31 239 5 rfl).trans ((u27 239 5 rfl).trans ((u21 239 5 rfl).trans (u15 239 5 rfl))))
      have e36 : h31 239 7 = h 239 7 := ((u31 239 7 rfl).trans ((u27 239 7 rfl).trans ((u21 239 7 rfl).trans (u15 239 7 rfl))))
      have e37 : h31 239 15 = h 239 15 := ((u31 239 15 rfl).trans ((u27 239 15 rfl).trans ((u21 239 15 rfl).trans (u15 239 15 rfl))))
      have e38 : h31 239 16 = z23 := ((u31 239 16 rfl).trans w27)
      have e39 : h31 239 17 = h 239 17 := ((u31 239 17 rfl).trans ((u27 239 17 rfl).trans ((u21 239 17 rfl).trans (u15 239 17 rfl))))
      have e40 : h31 239 18 = h 239 18 := ((u31 239 18 rfl).trans ((u27 239 18 rfl).trans ((u21 239 18 rfl).trans (u15 239 18 rfl))))
      exact k h31 g31 F32 (show (h 236 4) ≤ (h31 236 4) by omega) (show (h31 236 4) ≤ (h 236 3) by omega) (show 1 ≤ (h31 236 8) ∨ ((h31 239 5) ≤ 9 ∧ 1 ≤ (h31 239 5) ∧ (h31 239 7) ≤ 3 ∧ (h31 239 15) ≤ 6 ∧ (h31 239 16) ≤ 6 ∧ (h31 239 17) ≤ 6 ∧ (h31 239 18) ≤ 6) by omega)
  ·
    refine wr_ia (k0 := 239) (a := 1) (f := 1) (x := 2) (nx := 6) (r1 := 0) (r2 := 0) (r3 := 0) rfl (by decide) rfl (by omega) (by omega) (by decide) q11 ?_
    refine wi_istore_n (i := 1) (e := 2) (lo2 := [(1, vi 2), (0, .ref 236)]) (nx := 7) (r1 := 0) (r2 := 0) (r3 := 0) rfl rfl ?_
    refine wi_aload_n (i := 0) (x := 236) (nx := 8) (r1 := 0) (r2 := 0) (r3 := 0) rfl rfl ?_
    refine wi_iconst (n := 1) (nx := 9) (r1 := 0) (r2 := 0) (r3 := 0) rfl ?_
    refine wi_iconst (n := 4) (nx := 10) (r1 := 0) (r2 := 0) (r3 := 0) rfl ?_
    refine wr_V (k0 := 236) (rest := []) (as := [.ref 236, vi 1, vi 4]) (nx := 13) (r1 := 223) (r2 := 2) (r3 := 11) rfl rfl rfl (of_decide_eq_true rfl) rfl rfl (by decide) rfl rfl (of_decide_eq_true rfl) (of_decide_eq_true rfl) ?_
    refine wi_aload_n (i := 0) (x := 236) (nx := 1) (r1 := 0) (r2 := 0) (r3 := 0) rfl rfl ?_
    refine wr_gr (k0 := 236) (x := 239) (nx := 4) (r1 := 11) (r2 := 14) (r3 := 0) rfl rfl (by decide) rfl ⟨rfl, rfl⟩ rfl ?_
    refine wi_iload_n (i := 1) (e := 1) (nx := 5) (r1 := 0) (r2 := 0) (r3 := 0) rfl rfl ?_
    refine wr_ia (k0 := 239) (a := 1) (f := 1) (x := 2) (nx := 6) (r1 := 0) (r2 := 0) (r3 := 0) rfl (by decide) rfl (by omega) (by omega) (by decide) q11 ?_
    refine wi_iload_n (i := 2) (e := 4) (nx := 7) (r1 := 0) (r2 := 0) (r3 := 0) rfl rfl ?_
    refine wi_icmp (cd := .ne) (nx := 10) (r1 := 15) (r2 := 0) (r3 := 0) rfl (by omega) (by omega) (fun (q12 : 2 ≠ 4) => ?_) (fun (q12 : ¬ (2 ≠ 4)) => by exfalso; omega)
    refine wi_aload_n (i := 0) (x := 236) (nx := 16) (r1 := 0) (r2 := 0) (r3 := 0) rfl rfl ?_
    refine wr_V (k0 := 236) (rest := []) (as := [.ref 236]) (nx := 19) (r1 := 219) (r2 := 0) (r3 := 11) rfl rfl rfl (of_decide_eq_true rfl) rfl rfl (by decide) rfl rfl (of_decide_eq_true rfl) (of_decide_eq_true rfl) ?_
    refine wi_aload_n (i := 0) (x := 236) (nx := 1) (r1 := 0) (r2 := 0) (r3 := 0) rfl rfl ?_
    refine wr_gi0 (k0 := 236) (x := h 236 8) (nx := 4) (r1 := 11) (r2 := 8) (r3 := 0) rfl rfl (by decide) rfl ⟨rfl, rfl⟩ rfl rfl ?_
    refine wi_if (cd := .ne) (nx := 7) (r1 := 11) (r2 := 0) (r3 := 0) rfl (by omega) (fun (q13 : (h 236 8) ≠ 0) => by exfalso; omega) (fun (q13 : ¬ ((h 236 8) ≠ 0)) => ?_)
    refine wi_iconst (n := 1) (nx := 8) (r1 := 0) (r2 := 0) (r3 := 0) rfl ?_
    refine wi_goto (nx := 11) (r1 := 12) (r2 := 0) (r3 := 0) rfl ?_
    refine wi_zreturn (nx := 13) (r1 := 0) (r2 := 0) (r3 := 0) rfl rfl (by omega) ?_
    refine wk_i ?_
    refine wi_if (cd := .eq) (nx := 22) (r1 := 26) (r2 := 0) (r3 := 0) rfl (by omega) (fun (q14 : 1 = 0) => by exfalso; omega) (fun (q14 : ¬ (1 = 0)) => ?_)
    refine wi_aload_n (i := 0) (x := 236) (nx := 23) (r1 := 0) (r2 := 0) (r3 := 0) rfl rfl ?_
    refine wr_V (k0 := 236) (rest := []) (as := [.ref 236]) (nx := 26) (r1 := 215) (r2 := 0) (r3 := 11) rfl rfl rfl (of_decide_eq_true rfl) rfl rfl (by decide) rfl rfl (of_decide_eq_true rfl) (of_decide_eq_true rfl) ?_
    refine ct_215_236 hcr  g   (show (h 236 4) ≤ (h 236 3) by omega) (fun h15 g15 u15 (p15_0 : (h 236 4) ≤ (h15 236 4)) (p15_1 : (h15 236 4) ≤ (h 236 3)) (p15_2 : (h15 236 6) = 0 ∨ (h 236 4) + 1 ≤ (h15 236 4)) => ?_)
    have F16 := F0.then (by decide +kernel) u15
    have b17 := gi_b (lo := 0) (hi := 800) g15 236 4 rfl
    have b18 := gi_b (lo := 0) (hi := 4) g15 236 6 rfl
    refine wk_n ?_
    refine wi_aload_n (i := 0) (x := 236) (nx := 27) (r1 := 0) (r2 := 0) (r3 := 0) rfl rfl ?_
    refine wr_V (k0 := 236) (rest := []) (as := [.ref 236]) (nx := 30) (r1 := 219) (r2 := 0) (r3 := 11) rfl rfl rfl (of_decide_eq_true rfl) rfl rfl (by decide) rfl rfl (of_decide_eq_true rfl) (of_decide_eq_true rfl) ?_
    refine wi_aload_n (i := 0) (x := 236) (nx := 1) (r1 := 0) (r2 := 0) (r3 := 0) rfl rfl ?_
    refine wr_gi0 (k0 := 236) (x := h 236 8) (nx := 4) (r1 := 11) (r2 := 8) (r3 := 0) rfl rfl (by decide) rfl ⟨rfl, rfl⟩ rfl (u15 236 8 rfl) ?_
    refine wi_if (cd := .ne) (nx := 7) (r1 := 11) (r2 := 0) (r3 := 0) rfl (by omega) (fun (q19 : (h 236 8) ≠ 0) => by exfalso; omega) (fun (q19 : ¬ ((h 236 8) ≠ 0)) => ?_)
    refine wi_iconst (n := 1) (nx := 8) (r1 := 0) (r2 := 0) (r3 := 0) rfl ?_
    refine wi_goto (nx := 11) (r1 := 12) (r2 := 0) (r3 := 0) rfl ?_
    refine wi_zreturn (nx := 13) (r1 := 0) (r2 := 0) (r3 := 0) rfl rfl (by omega) ?_
    refine wk_i ?_
    refine wi_zreturn (nx := 31) (r1 := 0) (r2 := 0) (r3 := 0) rfl rfl (by omega) ?_
    refine wk_i ?_
    refine wi_if (cd := .ne) (nx := 16) (r1 := 17) (r2 := 0) (r3 := 0) rfl (by omega) (fun (q20 : 1 ≠ 0) => ?_) (fun (q20 : ¬ (1 ≠ 0)) => by exfalso; omega)
    refine wi_aload_n (i := 0) (x := 236) (nx := 18) (r1 := 0) (r2 := 0) (r3 := 0) rfl rfl ?_
    refine wr_gr (k0 := 236) (x := 239) (nx := 21) (r1 := 11) (r2 := 14) (r3 := 0) rfl rfl (by decide) rfl ⟨rfl, rfl⟩ rfl ?_
    refine wi_bipush (n := 15) (nx := 23) (r1 := 0) (r2 := 0) (r3 := 0) rfl (by decide) ?_
    refine wi_iload_n (i := 1) (e := 2) (nx := 24) (r1 := 0) (r2 := 0) (r3 := 0) rfl rfl ?_
    refine wr_addL (17) (nx := 25) (r1 := 0) (r2 := 0) (r3 := 0) rfl (by decide) ?_
    refine wi_aload_n (i := 0) (x := 236) (nx := 26) (r1 := 0) (r2 := 0) (r3 := 0) rfl rfl ?_
    refine wi_iconst (n := 1) (nx := 27) (r1 := 0) (r2 := 0) (r3 := 0) rfl ?_
    refine wi_bipush (n := 6) (nx := 29) (r1 := 0) (r2 := 0) (r3 := 0) rfl (by decide) ?_
    refine wr_V (k0 := 236) (rest := [vi 17, .ref 239]) (as := [.ref 236, vi 1, vi 6]) (nx := 32) (r1 := 231) (r2 := 2) (r3 := 11) rfl rfl rfl (of_decide_eq_true rfl) rfl rfl (by decide) rfl rfl (of_decide_eq_true rfl) (of_decide_eq_true rfl) ?_
    have e22 : h15 236 3 = h 236 3 := (u15 236 3 rfl)
    refine ct_231_236 hcr  g15 1 6 (by omega) (by omega) (show (h15 236 4) ≤ (h15 236 3) by omega) (fun h21 z23 g21 u21 (fz23 : 0 ≤ z23 ∧ z23 ≤ 999) (p21_0 : (h15 236 4) ≤ (h21 236 4)) (p21_1 : (h21 236 4) ≤ (h15 236 3)) (p21_2 : 1 ≤ (h21 236 8) ∨ (h15 236 8) = 0) (p21_3 : 1 ≤ (h21 236 8) ∨ (1 ≤ z23 ∧ z23 ≤ 6)) => ?_)
    have F24 := F16.then (by decide +kernel) u21
    have b25 := gi_b (lo := 0) (hi := 800) g21 236 4 rfl
    have b26 := gi_b (lo := 0) (hi := 5) g21 236 8 rfl
    refine wk_i ?_
    refine wr_is (k0 := 239) (a := 17) (f := 17) (x := z23) (bl := 0) (bh := 999) (nx := 33) (r1 := 0) (r2 := 0) (r3 := 0) rfl (by decide) rfl (by omega) (by omega) (by decide) g21 rfl (by omega) (fun h27 g27 w27 u27 => ?_)
    have F28 := F24.then rfl u27
    refine wi_aload_n (i := 0) (x := 236) (nx := 34) (r1 := 0) (r2 := 0) (r3 := 0) rfl rfl ?_
    refine wr_V (k0 := 236) (rest := []) (as := [.ref 236]) (nx := 37) (r1 := 219) (r2 := 0) (r3 := 11) rfl rfl rfl (of_decide_eq_true rfl) rfl rfl (by decide) rfl rfl (of_decide_eq_true rfl) (of_decide_eq_true rfl) ?_
    refine wi_aload_n (i := 0) (x := 236) (nx := 1) (r1 := 0) (r2 := 0) (r3 := 0) rfl rfl ?_
    refine wr_gi0 (k0 := 236) (x := h21 236 8) (nx := 4) (r1 := 11) (r2 := 8) (r3 := 0) rfl rfl (by decide) rfl ⟨rfl, rfl⟩ rfl (u27 236 8 rfl) ?_
    refine wi_if (cd := .ne) (nx := 7) (r1 := 11) (r2 := 0) (r3 := 0) rfl (by omega) (fun (q29 : (h21 236 8) ≠ 0) => ?_) (fun (q29 : ¬ ((h21 236 8) ≠ 0)) => ?_)
    ·
      refine wi_iconst (n := 0) (nx := 12) (r1 := 0) (r2 := 0) (r3 := 0) rfl ?_
      refine wi_zreturn (nx := 13) (r1 := 0) (r2 := 0) (r3 := 0) rfl rfl (by omega) ?_
      refine wk_i ?_
      refine wi_if (cd := .eq) (nx := 40) (r1 := 50) (r2 := 0) (r3 := 0) rfl (by omega) (fun (q30 : 0 = 0) => ?_) (fun (q30 : ¬ (0 = 0)) => by exfalso; omega)
      refine wi_return (nx := 51) (r1 := 0) (r2 := 0) (r3 := 0) rfl rfl ?_
      have e31 : h27 236 4 = h21 236 4 := (u27 236 4 rfl)
      have e32 : h27 236 8 = h21 236 8 := (u27 236 8 rfl)
      have e33 : h27 239 5 = h 239 5 := ((u27 239 5 rfl).trans ((u21 239 5 rfl).trans (u15 239 5 rfl)))
      have e34 : h27 239 7 = h 239 7 := ((u27 239 7 rfl).trans ((u21 239 7 rfl).trans (u15 239 7 rfl)))
      have e35 : h27 239 15 = h 239 15 := ((u27 239 15 rfl).trans ((u21 239 15 rfl).trans (u15 239 15 rfl)))
      have e36 : h27 239 16 = h 239 16 := ((u27 239 16 rfl).trans ((u21 239 16 rfl).trans (u15 239 16 rfl)))
      have e37 : h27 239 17 = z23 := w27
      have e38 : h27 239 18 = h 239 18 := ((u27 239 18 rfl).trans ((u21 239 18 rfl).trans (u15 239 18 rfl)))
      exact k h27 g27 F28 (show (h 236 4) ≤ (h27 236 4) by omega) (show (h27 236 4) ≤ (h 236 3) by omega) (show 1 ≤ (h27 236 8) ∨ ((h27 239 5) ≤ 9 ∧ 1 ≤ (h27 239 5) ∧ (h27 239 7) ≤ 3 ∧ (h27 239 15) ≤ 6 ∧ (h27 239 16) ≤ 6 ∧ (h27 239 17) ≤ 6 ∧ (h27 239 18) ≤ 6) by omega)
    ·
      refine wi_iconst (n := 1) (nx := 8) (r1 := 0) (r2 := 0) (r3 := 0) rfl ?_
      refine wi_goto (nx := 11) (r1 := 12) (r2 := 0) (r3 := 0) rfl ?_
      refine wi_zreturn (nx := 13) (r1 := 0) (r2 := 0) (r3 := 0) rfl rfl (by omega) ?_
      refine wk_i ?_
      refine wi_if (cd := .eq) (nx := 40) (r1 := 50) (r2 := 0) (r3 := 0) rfl (by omega) (fun (q30 : 1 = 0) => by exfalso; omega) (fun (q30 : ¬ (1 = 0)) => ?_)
      refine wi_aload_n (i := 0) (x := 236) (nx := 41) (r1 := 0) (r2 := 0) (r3 := 0) rfl rfl ?_
      refine wr_gr (k0 := 236) (x := 239) (nx := 44) (r1 := 11) (r2 := 14) (r3 := 0) rfl rfl (by decide) rfl ⟨rfl, rfl⟩ rfl ?_
      refine wi_iconst (n := 1) (nx := 45) (r1 := 0) (r2 := 0) (r3 := 0) rfl ?_
      refine wi_dup2 (nx := 46) (r1 := 0) (r2 := 0) (r3 := 0) rfl rfl rfl ?_
      refine wr_ia (k0 := 239) (a := 1) (f := 1) (x := 2) (nx := 47) (r1 := 0) (r2 := 0) (r3 := 0) rfl (by decide) rfl (by omega) (by omega) (by decide) ((u27 239 1 rfl).trans ((u21 239 1 rfl).trans ((u15 239 1 rfl).trans q11))) ?_
      refine wi_iconst (n := 1) (nx := 48) (r1 := 0) (r2 := 0) (r3 := 0) rfl ?_
      refine wr_addL (3) (nx := 49) (r1 := 0) (r2 := 0) (r3 := 0) rfl (by decide) ?_
      refine wr_is (k0 := 239) (a := 1) (f := 1) (x := 3) (bl := 0) (bh := 4) (nx := 50) (r1 := 0) (r2 := 0) (r3 := 0) rfl (by decide) rfl (by omega) (by omega) (by decide) g27 rfl (by omega) (fun h31 g31 w31 u31 => ?_)
      have F32 := F28.then rfl u31
      refine wi_return (nx := 51) (r1 := 0) (r2 := 0) (r3 := 0) rfl rfl ?_
      have e33 : h31 236 4 = h21 236 4 := ((u31 236 4 rfl).trans (u27 236 4 rfl))
      have e34 : h31 236 8 = h21 236 8 := ((u31 236 8 rfl).trans (u27 236 8 rfl))
      have e35 : h31 239 5 = h 239 5 := ((u31 239 5 rfl).trans ((u27 239 5 rfl).trans ((u21 239 5 rfl).trans (u15 239 5 rfl))))
      have e36 : h31 239 7 = h 239 7 := ((u31 239 7 rfl).trans ((u27 239 7 rfl).trans ((u21 239 7 rfl).trans (u15 239 7 rfl))))
      have e37 : h31 239 15 = h 239 15 := ((u31 239 15 rfl).trans ((u27 239 15 rfl).trans ((u21 239 15 rfl).trans (u15 239 15 rfl))))
      have e38 : h31 239 16 = h 239 16 := ((u31 239 16 rfl).trans ((u27 239 16 rfl).trans ((u21 239 16 rfl).trans (u15 239 16 rfl))))
      have e39 : h31 239 17 = z23 := ((u31 239 17 rfl).trans w27)
      have e40 : h31 239 18 = h 239 18 := ((u31 239 18 rfl).trans ((u27 239 18 rfl).trans ((u21 239 18 rfl).trans (u15 239 18 rfl))))
      exact k h31 g31 F32 (show (h 236 4) ≤ (h31 236 4) by omega) (show (h31 236 4) ≤ (h 236 3) by omega) (show 1 ≤ (h31 236 8) ∨ ((h31 239 5) ≤ 9 ∧ 1 ≤ (h31 239 5) ∧ (h31 239 7) ≤ 3 ∧ (h31 239 15) ≤ 6 ∧ (h31 239 16) ≤ 6 ∧ (h31 239 17) ≤ 6 ∧ (h31 239 18) ≤ 6) by omega)
  ·
    refine wr_ia (k0 := 239) (a := 1) (f := 1) (x := 3) (nx := 6) (r1 := 0) (r2 := 0) (r3 := 0) rfl (by decide) rfl (by omega) (by omega) (by decide) q11 ?_
    refine wi_istore_n (i := 1) (e := 3) (lo2 := [(1, vi 3), (0, .ref 236)]) (nx := 7) (r1 := 0) (r2 := 0) (r3 := 0) rfl rfl ?_
    refine wi_aload_n (i := 0) (x := 236) (nx := 8) (r1 := 0) (r2 := 0) (r3 := 0) rfl rfl ?_
    refine wi_iconst (n := 1) (nx := 9) (r1 := 0) (r2 := 0) (r3 := 0) rfl ?_
    refine wi_iconst (n := 4) (nx := 10) (r1 := 0) (r2 := 0) (r3 := 0) rfl ?_
    refine wr_V (k0 := 236) (rest := []) (as := [.ref 236, vi 1, vi 4]) (nx := 13) (r1 := 223) (r2 := 2) (r3 := 11) rfl rfl rfl (of_decide_eq_true rfl) rfl rfl (by decide) rfl rfl (of_decide_eq_true rfl) (of_decide_eq_true rfl) ?_
    refine wi_aload_n (i := 0) (x := 236) (nx := 1) (r1 := 0) (r2 := 0) (r3 := 0) rfl rfl ?_
    refine wr_gr (k0 := 236) (x := 239) (nx := 4) (r1 := 11) (r2 := 14) (r3 := 0) rfl rfl (by decide) rfl ⟨rfl, rfl⟩ rfl ?_
    refine wi_iload_n (i := 1) (e := 1) (nx := 5) (r1 := 0) (r2 := 0) (r3 := 0) rfl rfl ?_
    refine wr_ia (k0 := 239) (a := 1) (f := 1) (x := 3) (nx := 6) (r1 := 0) (r2 := 0) (r3 := 0) rfl (by decide) rfl (by omega) (by omega) (by decide) q11 ?_
    refine wi_iload_n (i := 2) (e := 4) (nx := 7) (r1 := 0) (r2 := 0) (r3 := 0) rfl rfl ?_
    refine wi_icmp (cd := .ne) (nx := 10) (r1 := 15) (r2 := 0) (r3 := 0) rfl (by omega) (by omega) (fun (q12 : 3 ≠ 4) => ?_) (fun (q12 : ¬ (3 ≠ 4)) => by exfalso; omega)
    refine wi_aload_n (i := 0) (x := 236) (nx := 16) (r1 := 0) (r2 := 0) (r3 := 0) rfl rfl ?_
    refine wr_V (k0 := 236) (rest := []) (as := [.ref 236]) (nx := 19) (r1 := 219) (r2 := 0) (r3 := 11) rfl rfl rfl (of_decide_eq_true rfl) rfl rfl (by decide) rfl rfl (of_decide_eq_true rfl) (of_decide_eq_true rfl) ?_
    refine wi_aload_n (i := 0) (x := 236) (nx := 1) (r1 := 0) (r2 := 0) (r3 := 0) rfl rfl ?_
    refine wr_gi0 (k0 := 236) (x := h 236 8) (nx := 4) (r1 := 11) (r2 := 8) (r3 := 0) rfl rfl (by decide) rfl ⟨rfl, rfl⟩ rfl rfl ?_
    refine wi_if (cd := .ne) (nx := 7) (r1 := 11) (r2 := 0) (r3 := 0) rfl (by omega) (fun (q13 : (h 236 8) ≠ 0) => by exfalso; omega) (fun (q13 : ¬ ((h 236 8) ≠ 0)) => ?_)
    refine wi_iconst (n := 1) (nx := 8) (r1 := 0) (r2 := 0) (r3 := 0) rfl ?_
    refine wi_goto (nx := 11) (r1 := 12) (r2 := 0) (r3 := 0) rfl ?_
    refine wi_zreturn (nx := 13) (r1 := 0) (r2 := 0) (r3 := 0) rfl rfl (by omega) ?_
    refine wk_i ?_
    refine wi_if (cd := .eq) (nx := 22) (r1 := 26) (r2 := 0) (r3 := 0) rfl (by omega) (fun (q14 : 1 = 0) => by exfalso; omega) (fun (q14 : ¬ (1 = 0)) => ?_)
    refine wi_aload_n (i := 0) (x := 236) (nx := 23) (r1 := 0) (r2 := 0) (r3 := 0) rfl rfl ?_
    refine wr_V (k0 := 236) (rest := []) (as := [.ref 236]) (nx := 26) (r1 := 215) (r2 := 0) (r3 := 11) rfl rfl rfl (of_decide_eq_true rfl) rfl rfl (by decide) rfl rfl (of_decide_eq_true rfl) (of_decide_eq_true rfl) ?_
    refine ct_215_236 hcr  g   (show (h 236 4) ≤ (h 236 3) by omega) (fun h15 g15 u15 (p15_0 : (h 236 4) ≤ (h15 236 4)) (p15_1 : (h15 236 4) ≤ (h 236 3)) (p15_2 : (h15 236 6) = 0 ∨ (h 236 4) + 1 ≤ (h15 236 4)) => ?_)
    have F16 := F0.then (by decide +kernel) u15
    have b17 := gi_b (lo := 0) (hi := 800) g15 236 4 rfl
    have b18 := gi_b (lo := 0) (hi := 4) g15 236 6 rfl
    refine wk_n ?_
    refine wi_aload_n (i := 0) (x := 236) (nx := 27) (r1 := 0) (r2 := 0) (r3 := 0) rfl rfl ?_
    refine wr_V (k0 := 236) (rest := []) (as := [.ref 236]) (nx := 30) (r1 := 219) (r2 := 0) (r3 := 11) rfl rfl rfl (of_decide_eq_true rfl) rfl rfl (by decide) rfl rfl (of_decide_eq_true rfl) (of_decide_eq_true rfl) ?_
    refine wi_aload_n (i := 0) (x := 236) (nx := 1) (r1 := 0) (r2 := 0) (r3 := 0) rfl rfl ?_
    refine wr_gi0 (k0 := 236) (x := h 236 8) (nx := 4) (r1 := 11) (r2 := 8) (r3 := 0) rfl rfl (by decide) rfl ⟨rfl, rfl⟩ rfl (u15 236 8 rfl) ?_
    refine wi_if (cd := .ne) (nx := 7) (r1 := 11) (r2 := 0) (r3 := 0) rfl (by omega) (fun (q19 : (h 236 8) ≠ 0) => by exfalso; omega) (fun (q19 : ¬ ((h 236 8) ≠ 0)) => ?_)
    refine wi_iconst (n := 1) (nx := 8) (r1 := 0) (r2 := 0) (r3 := 0) rfl ?_
    refine wi_goto (nx := 11) (r1 := 12) (r2 := 0) (r3 := 0) rfl ?_
    refine wi_zreturn (nx := 13) (r1 := 0) (r2 := 0) (r3 := 0) rfl rfl (by omega) ?_
    refine wk_i ?_
    refine wi_zreturn (nx := 31) (r1 := 0) (r2 := 0) (r3 := 0) rfl rfl (by omega) ?_
    refine wk_i ?_
    refine wi_if (cd := .ne) (nx := 16) (r1 := 17) (r2 := 0) (r3 := 0) rfl (by omega) (fun (q20 : 1 ≠ 0) => ?_) (fun (q20 : ¬ (1 ≠ 0)) => by exfalso; omega)
    refine wi_aload_n (i := 0) (x := 236) (nx := 18) (r1 := 0) (r2 := 0) (r3 := 0) rfl rfl ?_
    refine wr_gr (k0 := 236) (x := 239) (nx := 21) (r1 := 11) (r2 := 14) (r3 := 0) rfl rfl (by decide) rfl ⟨rfl, rfl⟩ rfl ?_
    refine wi_bipush (n := 15) (nx := 23) (r1 := 0) (r2 := 0) (r3 := 0) rfl (by decide) ?_
    refine wi_iload_n (i := 1) (e := 3) (nx := 24) (r1 := 0) (r2 := 0) (r3 := 0) rfl rfl ?_
    refine wr_addL (18) (nx := 25) (r1 := 0) (r2 := 0) (r3 := 0) rfl (by decide) ?_
    refine wi_aload_n (i := 0) (x := 236) (nx := 26) (r1 := 0) (r2 := 0) (r3 := 0) rfl rfl ?_
    refine wi_iconst (n := 1) (nx := 27) (r1 := 0) (r2 := 0) (r3 := 0) rfl ?_
    refine wi_bipush (n := 6) (nx := 29) (r1 := 0) (r2 := 0) (r3 := 0) rfl (by decide) ?_
    refine wr_V (k0 := 236) (rest := [vi 18, .ref 239]) (as := [.ref 236, vi 1, vi 6]) (nx := 32) (r1 := 231) (r2 := 2) (r3 := 11) rfl rfl rfl (of_decide_eq_true rfl) rfl rfl (by decide) rfl rfl (of_decide_eq_true rfl) (of_decide_eq_true rfl) ?_
    have e22 : h15 236 3 = h 236 3 := (u15 236 3 rfl)
    refine ct_231_236 hcr  g15 1 6 (by omega) (by omega) (show (h15 236 4) ≤ (h15 236 3) by omega) (fun h21 z23 g21 u21 (fz23 : 0 ≤ z23 ∧ z23 ≤ 999) (p21_0 : (h15 236 4) ≤ (h21 236 4)) (p21_1 : (h21 236 4) ≤ (h15 236 3)) (p21_2 : 1 ≤ (h21 236 8) ∨ (h15 236 8) = 0) (p21_3 : 1 ≤ (h21 236 8) ∨ (1 ≤ z23 ∧ z23 ≤ 6)) => ?_)
    have F24 := F16.then (by decide +kernel) u21
    have b25 := gi_b (lo := 0) (hi := 800) g21 236 4 rfl
    have b26 := gi_b (lo := 0) (hi := 5) g21 236 8 rfl
    refine wk_i ?_
    refine wr_is (k0 := 239) (a := 18) (f := 18) (x := z23) (bl := 0) (bh := 999) (nx := 33) (r1 := 0) (r2 := 0) (r3 := 0) rfl (by decide) rfl (by omega) (by omega) (by decide) g21 rfl (by omega) (fun h27 g27 w27 u27 => ?_)
    have F28 := F24.then rfl u27
    refine wi_aload_n (i := 0) (x := 236) (nx := 34) (r1 := 0) (r2 := 0) (r3 := 0) rfl rfl ?_
    refine wr_V (k0 := 236) (rest := []) (as := [.ref 236]) (nx := 37) (r1 := 219) (r2 := 0) (r3 := 11) rfl rfl rfl (of_decide_eq_true rfl) rfl rfl (by decide) rfl rfl (of_decide_eq_true rfl) (of_decide_eq_true rfl) ?_
    refine wi_aload_n (i := 0) (x := 236) (nx := 1) (r1 := 0) (r2 := 0) (r3 := 0) rfl rfl ?_
    refine wr_gi0 (k0 := 236) (x := h21 236 8) (nx := 4) (r1 := 11) (r2 := 8) (r3 := 0) rfl rfl (by decide) rfl ⟨rfl, rfl⟩ rfl (u27 236 8 rfl) ?_
    refine wi_if (cd := .ne) (nx := 7) (r1 := 11) (r2 := 0) (r3 := 0) rfl (by omega) (fun (q29 : (h21 236 8) ≠ 0) => ?_) (fun (q29 : ¬ ((h21 236 8) ≠ 0)) => ?_)
    ·
      refine wi_iconst (n := 0) (nx := 12) (r1 := 0) (r2 := 0) (r3 := 0) rfl ?_
      refine wi_zreturn (nx := 13) (r1 := 0) (r2 := 0) (r3 := 0) rfl rfl (by omega) ?_
      refine wk_i ?_
      refine wi_if (cd := .eq) (nx := 40) (r1 := 50) (r2 := 0) (r3 := 0) rfl (by omega) (fun (q30 : 0 = 0) => ?_) (fun (q30 : ¬ (0 = 0)) => by exfalso; omega)
      refine wi_return (nx := 51) (r1 := 0) (r2 := 0) (r3 := 0) rfl rfl ?_
      have e31 : h27 236 4 = h21 236 4 := (u27 236 4 rfl)
      have e32 : h27 236 8 = h21 236 8 := (u27 236 8 rfl)
      have e33 : h27 239 5 = h 239 5 := ((u27 239 5 rfl).trans ((u21 239 5 rfl).trans (u15 239 5 rfl)))
      have e34 : h27 239 7 = h 239 7 := ((u27 239 7 rfl).trans ((u21 239 7 rfl).trans (u15 239 7 rfl)))
      have e35 : h27 239 15 = h 239 15 := ((u27 239 15 rfl).trans ((u21 239 15 rfl).trans (u15 239 15 rfl)))
      have e36 : h27 239 16 = h 239 16 := ((u27 239 16 rfl).trans ((u21 239 16 rfl).trans (u15 239 16 rfl)))
      have e37 : h27 239 17 = h 239 17 := ((u27 239 17 rfl).trans ((u21 239 17 rfl).trans (u15 239 17 rfl)))
      have e38 : h27 239 18 = z23 := w27
      exact k h27 g27 F28 (show (h 236 4) ≤ (h27 236 4) by omega) (show (h27 236 4) ≤ (h 236 3) by omega) (show 1 ≤ (h27 236 8) ∨ ((h27 239 5) ≤ 9 ∧ 1 ≤ (h27 239 5) ∧ (h27 239 7) ≤ 3 ∧ (h27 239 15) ≤ 6 ∧ (h27 239 16) ≤ 6 ∧ (h27 239 17) ≤ 6 ∧ (h27 239 18) ≤ 6) by omega)
    ·
      refine wi_iconst (n := 1) (nx := 8) (r1 := 0) (r2 := 0) (r3 := 0) rfl ?_
      refine wi_goto (nx := 11) (r1 := 12) (r2 := 0) (r3 := 0) rfl ?_
      refine wi_zreturn (nx := 13) (r1 := 0) (r2 := 0) (r3 := 0) rfl rfl (by omega) ?_
      refine wk_i ?_
      refine wi_if (cd := .eq) (nx := 40) (r1 := 50) (r2 := 0) (r3 := 0) rfl (by omega) (fun (q30 : 1 = 0) => by exfalso; omega) (fun (q30 : ¬ (1 = 0)) => ?_)
      refine wi_aload_n (i := 0) (x := 236) (nx := 41) (r1 := 0) (r2 := 0) (r3 := 0) rfl rfl ?_
      refine wr_gr (k0 := 236) (x := 239) (nx := 44) (r1 := 11) (r2 := 14) (r3 := 0) rfl rfl (by decide) rfl ⟨rfl, rfl⟩ rfl ?_
      refine wi_iconst (n := 1) (nx := 45) (r1 := 0) (r2 := 0) (r3 := 0) rfl ?_
      refine wi_dup2 (nx := 46) (r1 := 0) (r2 := 0) (r3 := 0) rfl rfl rfl ?_
      refine wr_ia (k0 := 239) (a := 1) (f := 1) (x := 3) (nx := 47) (r1 := 0) (r2 := 0) (r3 := 0) rfl (by decide) rfl (by omega) (by omega) (by decide) ((u27 239 1 rfl).trans ((u21 239 1 rfl).trans ((u15 239 1 rfl).trans q11))) ?_
      refine wi_iconst (n := 1) (nx := 48) (r1 := 0) (r2 := 0) (r3 := 0) rfl ?_
      refine wr_addL (4) (nx := 49) (r1 := 0) (r2 := 0) (r3 := 0) rfl (by decide) ?_
      refine wr_is (k0 := 239) (a := 1) (f := 1) (x := 4) (bl := 0) (bh := 4) (nx := 50) (r1 := 0) (r2 := 0) (r3 := 0) rfl (by decide) rfl (by omega) (by omega) (by decide) g27 rfl (by omega) (fun h31 g31 w31 u31 => ?_)
      have F32 := F28.then rfl u31
      refine wi_return (nx := 51) (r1 := 0) (r2 := 0) (r3 := 0) rfl rfl ?_
      have e33 : h31 236 4 = h21 236 4 := ((u31 236 4 rfl).trans (u27 236 4 rfl))
      have e34 : h31 236 8 = h21 236 8 := ((u31 236 8 rfl).trans (u27 236 8 rfl))
      have e35 : h31 239 5 = h 239 5 := ((u31 239 5 rfl).trans ((u27 239 5 rfl).trans ((u21 239 5 rfl).trans (u15 239 5 rfl))))
      have e36 : h31 239 7 = h 239 7 := ((u31 239 7 rfl).trans ((u27 239 7 rfl).trans ((u21 239 7 rfl).trans (u15 239 7 rfl))))
      have e37 : h31 239 15 = h 239 15 := ((u31 239 15 rfl).trans ((u27 239 15 rfl).trans ((u21 239 15 rfl).trans (u15 239 15 rfl))))
      have e38 : h31 239 16 = h 239 16 := ((u31 239 16 rfl).trans ((u27 239 16 rfl).trans ((u21 239 16 rfl).trans (u15 239 16 rfl))))
      have e39 : h31 239 17 = h 239 17 := ((u31 239 17 rfl).trans ((u27 239 17 rfl).trans ((u21 239 17 rfl).trans (u15 239 17 rfl))))
      have e40 : h31 239 18 = z23 := ((u31 239 18 rfl).trans w27)
      exact k h31 g31 F32 (show (h 236 4) ≤ (h31 236 4) by omega) (show (h31 236 4) ≤ (h 236 3) by omega) (show 1 ≤ (h31 236 8) ∨ ((h31 239 5) ≤ 9 ∧ 1 ≤ (h31 239 5) ∧ (h31 239 7) ≤ 3 ∧ (h31 239 15) ≤ 6 ∧ (h31 239 16) ≤ 6 ∧ (h31 239 17) ≤ 6 ∧ (h31 239 18) ≤ 6) by omega)
  ·
    refine wr_ia (k0 := 239) (a := 1) (f := 1) (x := 4) (nx := 6) (r1 := 0) (r2 := 0) (r3 := 0) rfl (by decide) rfl (by omega) (by omega) (by decide) q11 ?_
    refine wi_istore_n (i := 1) (e := 4) (lo2 := [(1, vi 4), (0, .ref 236)]) (nx := 7) (r1 := 0) (r2 := 0) (r3 := 0) rfl rfl ?_
    refine wi_aload_n (i := 0) (x := 236) (nx := 8) (r1 := 0) (r2 := 0) (r3 := 0) rfl rfl ?_
    refine wi_iconst (n := 1) (nx := 9) (r1 := 0) (r2 := 0) (r3 := 0) rfl ?_
    refine wi_iconst (n := 4) (nx := 10) (r1 := 0) (r2 := 0) (r3 := 0) rfl ?_
    refine wr_V (k0 := 236) (rest := []) (as := [.ref 236, vi 1, vi 4]) (nx := 13) (r1 := 223) (r2 := 2) (r3 := 11) rfl rfl rfl (of_decide_eq_true rfl) rfl rfl (by decide) rfl rfl (of_decide_eq_true rfl) (of_decide_eq_true rfl) ?_
    refine wi_aload_n (i := 0) (x := 236) (nx := 1) (r1 := 0) (r2 := 0) (r3 := 0) rfl rfl ?_
    refine wr_gr (k0 := 236) (x := 239) (nx := 4) (r1 := 11) (r2 := 14) (r3 := 0) rfl rfl (by decide) rfl ⟨rfl, rfl⟩ rfl ?_
    refine wi_iload_n (i := 1) (e := 1) (nx := 5) (r1 := 0) (r2 := 0) (r3 := 0) rfl rfl ?_
    refine wr_ia (k0 := 239) (a := 1) (f := 1) (x := 4) (nx := 6) (r1 := 0) (r2 := 0) (r3 := 0) rfl (by decide) rfl (by omega) (by omega) (by decide) q11 ?_
    refine wi_iload_n (i := 2) (e := 4) (nx := 7) (r1 := 0) (r2 := 0) (r3 := 0) rfl rfl ?_
    refine wi_icmp (cd := .ne) (nx := 10) (r1 := 15) (r2 := 0) (r3 := 0) rfl (by omega) (by omega) (fun (q12 : 4 ≠ 4) => by exfalso; omega) (fun (q12 : ¬ (4 ≠ 4)) => ?_)
    refine wi_aload_n (i := 0) (x := 236) (nx := 11) (r1 := 0) (r2 := 0) (r3 := 0) rfl rfl ?_
    refine wi_iconst (n := 5) (nx := 12) (r1 := 0) (r2 := 0) (r3 := 0) rfl ?_
    refine wr_V (k0 := 236) (rest := []) (as := [.ref 236, vi 5]) (nx := 15) (r1 := 224) (r2 := 1) (r3 := 11) rfl rfl rfl (of_decide_eq_true rfl) rfl rfl (by decide) rfl rfl (of_decide_eq_true rfl) (of_decide_eq_true rfl) ?_
    refine ct_224_236 hcr  g 5 (by omega)  (fun h13 g13 u13 (p13_0 : 1 ≤ (h13 236 8)) => ?_)
    have F14 := F0.then (by decide +kernel) u13
    have b15 := gi_b (lo := 0) (hi := 5) g13 236 8 rfl
    refine wk_n ?_
    refine wi_aload_n (i := 0) (x := 236) (nx := 16) (r1 := 0) (r2 := 0) (r3 := 0) rfl rfl ?_
    refine wr_V (k0 := 236) (rest := []) (as := [.ref 236]) (nx := 19) (r1 := 219) (r2 := 0) (r3 := 11) rfl rfl rfl (of_decide_eq_true rfl) rfl rfl (by decide) rfl rfl (of_decide_eq_true rfl) (of_decide_eq_true rfl) ?_
    refine wi_aload_n (i := 0) (x := 236) (nx := 1) (r1 := 0) (r2 := 0) (r3 := 0) rfl rfl ?_
    refine wr_gi0 (k0 := 236) (x := h13 236 8) (nx := 4) (r1 := 11) (r2 := 8) (r3 := 0) rfl rfl (by decide) rfl ⟨rfl, rfl⟩ rfl rfl ?_
    refine wi_if (cd := .ne) (nx := 7) (r1 := 11) (r2 := 0) (r3 := 0) rfl (by omega) (fun (q16 : (h13 236 8) ≠ 0) => ?_) (fun (q16 : ¬ ((h13 236 8) ≠ 0)) => by exfalso; omega)
    refine wi_iconst (n := 0) (nx := 12) (r1 := 0) (r2 := 0) (r3 := 0) rfl ?_
    refine wi_zreturn (nx := 13) (r1 := 0) (r2 := 0) (r3 := 0) rfl rfl (by omega) ?_
    refine wk_i ?_
    refine wi_if (cd := .eq) (nx := 22) (r1 := 26) (r2 := 0) (r3 := 0) rfl (by omega) (fun (q17 : 0 = 0) => ?_) (fun (q17 : ¬ (0 = 0)) => by exfalso; omega)
    refine wi_aload_n (i := 0) (x := 236) (nx := 27) (r1 := 0) (r2 := 0) (r3 := 0) rfl rfl ?_
    refine wr_V (k0 := 236) (rest := []) (as := [.ref 236]) (nx := 30) (r1 := 219) (r2 := 0) (r3 := 11) rfl rfl rfl (of_decide_eq_true rfl) rfl rfl (by decide) rfl rfl (of_decide_eq_true rfl) (of_decide_eq_true rfl) ?_
    refine wi_aload_n (i := 0) (x := 236) (nx := 1) (r1 := 0) (r2 := 0) (r3 := 0) rfl rfl ?_
    refine wr_gi0 (k0 := 236) (x := h13 236 8) (nx := 4) (r1 := 11) (r2 := 8) (r3 := 0) rfl rfl (by decide) rfl ⟨rfl, rfl⟩ rfl rfl ?_
    refine wi_if (cd := .ne) (nx := 7) (r1 := 11) (r2 := 0) (r3 := 0) rfl (by omega) (fun (q18 : (h13 236 8) ≠ 0) => ?_) (fun (q18 : ¬ ((h13 236 8) ≠ 0)) => by exfalso; omega)
    refine wi_iconst (n := 0) (nx := 12) (r1 := 0) (r2 := 0) (r3 := 0) rfl ?_
    refine wi_zreturn (nx := 13) (r1 := 0) (r2 := 0) (r3 := 0) rfl rfl (by omega) ?_
    refine wk_i ?_
    refine wi_zreturn (nx := 31) (r1 := 0) (r2 := 0) (r3 := 0) rfl rfl (by omega) ?_
    refine wk_i ?_
    refine wi_if (cd := .ne) (nx := 16) (r1 := 17) (r2 := 0) (r3 := 0) rfl (by omega) (fun (q19 : 0 ≠ 0) => by exfalso; omega) (fun (q19 : ¬ (0 ≠ 0)) => ?_)
    refine wi_return (nx := 17) (r1 := 0) (r2 := 0) (r3 := 0) rfl rfl ?_
    have e20 : h13 236 4 = h 236 4 := (u13 236 4 rfl)
    have e21 : h13 239 5 = h 239 5 := (u13 239 5 rfl)
    have e22 : h13 239 7 = h 239 7 := (u13 239 7 rfl)
    have e23 : h13 239 15 = h 239 15 := (u13 239 15 rfl)
    have e24 : h13 239 16 = h 239 16 := (u13 239 16 rfl)
    have e25 : h13 239 17 = h 239 17 := (u13 239 17 rfl)
    have e26 : h13 239 18 = h 239 18 := (u13 239 18 rfl)
    exact k h13 g13 F14 (show (h 236 4) ≤ (h13 236 4) by omega) (show (h13 236 4) ≤ (h 236 3) by omega) (show 1 ≤ (h13 236 8) ∨ ((h13 239 5) ≤ 9 ∧ 1 ≤ (h13 239 5) ∧ (h13 239 7) ≤ 3 ∧ (h13 239 15) ≤ 6 ∧ (h13 239 16) ≤ 6 ∧ (h13 239 17) ≤ 6 ∧ (h13 239 18) ≤ 6) by omega)
-- method 222: Model.readsColor()V
set_option maxHeartbeats 100000000 in
theorem ct_222_236 {L : Nat} {xs : Nat → Int32} {d b c : Nat} {h : hp} {cr : Nat → Nat → Option Nat} {Q : hp_Q} (hcr : CR cr)  (g : GI h)   (pp0 : h 236 4 ≤ h 236 3) (pp1 : h 236 8 = 0) (pp2 : h 239 5 ≤ 9) (pp3 : 1 ≤ h 239 5) (pp4 : h 239 7 ≤ 3) (pp5 : h 239 15 ≤ 6) (pp6 : h 239 16 ≤ 6) (pp7 : h 239 17 ≤ 6) (pp8 : h 239 18 ≤ 6) (k : ∀ (h2 : hp) , GI h2 → FR [(244, 244, none), (236, 236, some (4, 4)), (236, 236, some (5, 5)), (236, 236, some (6, 6)), (236, 236, some (7, 7)), (236, 236, some (8, 8)), (236, 236, some (9, 9)), (236, 236, some (12, 12)), (239, 239, some (0, 0)), (239, 239, some (10, 14))] h h2 → (h 236 4 ≤ h2 236 4) → (h2 236 4 ≤ h 236 3) → (1 ≤ h2 236 8 ∨ (h2 239 5 ≤ 9 ∧ 1 ≤ h2 239 5 ∧ h2 239 7 ≤ 3 ∧ h2 239 15 ≤ 6 ∧ h2 239 16 ≤ 6 ∧ h2 239 17 ≤ 6 ∧ h2 239 18 ≤ 6)) → Q (.inl none) (hp_w h2 cr) b c) : wp (md_xa (L, xs)) (d + 5) 222 (0, [(0, .ref 236)], [], hp_w h cr, b, c) Q := by
  have F0 : FR [(244, 244, none), (236, 236, some (4, 4)), (236, 236, some (5, 5)), (236, 236, some (6, 6)), (236, 236, some (7, 7)), (236, 236, some (8, 8)), (236, 236, some (9, 9)), (236, 236, some (12, 12)), (239, 239, some (0, 0)), (239, 239, some (10, 14))] h h := FR.refl
  have b1 := gi_b (lo := 0) (hi := 800) g 236 4 rfl
  have b2 := gi_b (lo := 0) (hi := 800) g 236 3 rfl
  have b3 := gi_b (lo := 0) (hi := 5) g 236 8 rfl
  have b4 := gi_b (lo := 0) (hi := 999) g 239 5 rfl
  have b5 := gi_b (lo := 0) (hi := 999) g 239 7 rfl
  have b6 := gi_b (lo := 0) (hi := 999) g 239 15 rfl
  have b7 := gi_b (lo := 0) (hi := 999) g 239 16 rfl
  have b8 := gi_b (lo := 0) (hi := 999) g 239 17 rfl
  have b9 := gi_b (lo := 0) (hi := 999) g 239 18 rfl
  refine wi_aload_n (i := 0) (x := 236) (nx := 1) (r1 := 0) (r2 := 0) (r3 := 0) rfl rfl ?_
  refine wr_gr (k0 := 236) (x := 239) (nx := 4) (r1 := 11) (r2 := 14) (r3 := 0) rfl rfl (by decide) rfl ⟨rfl, rfl⟩ rfl ?_
  refine wi_iconst (n := 0) (nx := 5) (r1 := 0) (r2 := 0) (r3 := 0) rfl ?_
  have b10 := gi_b (lo := 0) (hi := 5) g 239 0 rfl
  refine wr_ia (k0 := 239) (a := 0) (f := 0) (x := h 239 0) (nx := 6) (r1 := 0) (r2 := 0) (r3 := 0) rfl (by decide) rfl (by omega) (by omega) (by decide) rfl ?_
  refine wi_istore_n (i := 1) (e := h 239 0) (lo2 := [(1, vi (h 239 0)), (0, .ref 236)]) (nx := 7) (r1 := 0) (r2 := 0) (r3 := 0) rfl rfl ?_
  refine wi_aload_n (i := 0) (x := 236) (nx := 8) (r1 := 0) (r2 := 0) (r3 := 0) rfl rfl ?_
  refine wi_iconst (n := 0) (nx := 9) (r1 := 0) (r2 := 0) (r3 := 0) rfl ?_
  refine wi_iconst (n := 5) (nx := 10) (r1 := 0) (r2 := 0) (r3 := 0) rfl ?_
  refine wr_V (k0 := 236) (rest := []) (as := [.ref 236, vi 0, vi 5]) (nx := 13) (r1 := 223) (r2 := 2) (r3 := 11) rfl rfl rfl (of_decide_eq_true rfl) rfl rfl (by decide) rfl rfl (of_decide_eq_true rfl) (of_decide_eq_true rfl) ?_
  refine wi_aload_n (i := 0) (x := 236) (nx := 1) (r1 := 0) (r2 := 0) (r3 := 0) rfl rfl ?_
  refine wr_gr (k0 := 236) (x := 239) (nx := 4) (r1 := 11) (r2 := 14) (r3 := 0) rfl rfl (by decide) rfl ⟨rfl, rfl⟩ rfl ?_
  refine wi_iload_n (i := 1) (e := 0) (nx := 5) (r1 := 0) (r2 := 0) (r3 := 0) rfl rfl ?_
  refine wr_ia (k0 := 239) (a := 0) (f := 0) (x := h 239 0) (nx := 6) (r1 := 0) (r2 := 0) (r3 := 0) rfl (by decide) rfl (by omega) (by omega) (by decide) rfl ?_
  refine wi_iload_n (i := 2) (e := 5) (nx := 7) (r1 := 0) (r2 := 0) (r3 := 0) rfl rfl ?_
  refine wi_icmp (cd := .ne) (nx := 10) (r1 := 15) (r2 := 0) (r3 := 0) rfl (by omega) (by omega) (fun (q11 : (h 239 0) ≠ 5) => ?_) (fun (q11 : ¬ ((h 239 0) ≠ 5)) => ?_)
  ·
    refine wi_aload_n (i := 0) (x := 236) (nx := 16) (r1 := 0) (r2 := 0) (r3 := 0) rfl rfl ?_
    refine wr_V (k0 := 236) (rest := []) (as := [.ref 236]) (nx := 19) (r1 := 219) (r2 := 0) (r3 := 11) rfl rfl rfl (of_decide_eq_true rfl) rfl rfl (by decide) rfl rfl (of_decide_eq_true rfl) (of_decide_eq_true rfl) ?_
    refine wi_aload_n (i := 0) (x := 236) (nx := 1) (r1 := 0) (r2 := 0) (r3 := 0) rfl rfl ?_
    refine wr_gi0 (k0 := 236) (x := h 236 8) (nx := 4) (r1 := 11) (r2 := 8) (r3 := 0) rfl rfl (by decide) rfl ⟨rfl, rfl⟩ rfl rfl ?_
    refine wi_if (cd := .ne) (nx := 7) (r1 := 11) (r2 := 0) (r3 := 0) rfl (by omega) (fun (q12 : (h 236 8) ≠ 0) => by exfalso; omega) (fun (q12 : ¬ ((h 236 8) ≠ 0)) => ?_)
    refine wi_iconst (n := 1) (nx := 8) (r1 := 0) (r2 := 0) (r3 := 0) rfl ?_
    refine wi_goto (nx := 11) (r1 := 12) (r2 := 0) (r3 := 0) rfl ?_
    refine wi_zreturn (nx := 13) (r1 := 0) (r2 := 0) (r3 := 0) rfl rfl (by omega) ?_
    refine wk_i ?_
    refine wi_if (cd := .eq) (nx := 22) (r1 := 26) (r2 := 0) (r3 := 0) rfl (by omega) (fun (q13 : 1 = 0) => by exfalso; omega) (fun (q13 : ¬ (1 = 0)) => ?_)
    refine wi_aload_n (i := 0) (x := 236) (nx := 23) (r1 := 0) (r2 := 0) (r3 := 0) rfl rfl ?_
    refine wr_V (k0 := 236) (rest := []) (as := [.ref 236]) (nx := 26) (r1 := 215) (r2 := 0) (r3 := 11) rfl rfl rfl (of_decide_eq_true rfl) rfl rfl (by decide) rfl rfl (of_decide_eq_true rfl) (of_decide_eq_true rfl) ?_
    refine ct_215_236 hcr  g   (show (h 236 4) ≤ (h 236 3) by omega) (fun h14 g14 u14 (p14_0 : (h 236 4) ≤ (h14 236 4)) (p14_1 : (h14 236 4) ≤ (h 236 3)) (p14_2 : (h14 236 6) = 0 ∨ (h 236 4) + 1 ≤ (h14 236 4)) => ?_)
    have F15 := F0.then (by decide +kernel) u14
    have b16 := gi_b (lo := 0) (hi := 800) g14 236 4 rfl
    have b17 := gi_b (lo := 0) (hi := 4) g14 236 6 rfl
    refine wk_n ?_
    refine wi_aload_n (i := 0) (x := 236) (nx := 27) (r1 := 0) (r2 := 0) (r3 := 0) rfl rfl ?_
    refine wr_V (k0 := 236) (rest := []) (as := [.ref 236]) (nx := 30) (r1 := 219) (r2 := 0) (r3 := 11) rfl rfl rfl (of_decide_eq_true rfl) rfl rfl (by decide) rfl rfl (of_decide_eq_true rfl) (of_decide_eq_true rfl) ?_
    refine wi_aload_n (i := 0) (x := 236) (nx := 1) (r1 := 0) (r2 := 0) (r3 := 0) rfl rfl ?_
    refine wr_gi0 (k0 := 236) (x := h 236 8) (nx := 4) (r1 := 11) (r2 := 8) (r3 := 0) rfl rfl (by decide) rfl ⟨rfl, rfl⟩ rfl (u14 236 8 rfl) ?_
    refine wi_if (cd := .ne) (nx := 7) (r1 := 11) (r2 := 0) (r3 := 0) rfl (by omega) (fun (q18 : (h 236 8) ≠ 0) => by exfalso; omega) (fun (q18 : ¬ ((h 236 8) ≠ 0)) => ?_)
    refine wi_iconst (n := 1) (nx := 8) (r1 := 0) (r2 := 0) (r3 := 0) rfl ?_
    refine wi_goto (nx := 11) (r1 := 12) (r2 := 0) (r3 := 0) rfl ?_
    refine wi_zreturn (nx := 13) (r1 := 0) (r2 := 0) (r3 := 0) rfl rfl (by omega) ?_
    refine wk_i ?_
    refine wi_zreturn (nx := 31) (r1 := 0) (r2 := 0) (r3 := 0) rfl rfl (by omega) ?_
    refine wk_i ?_
    refine wi_if (cd := .ne) (nx := 16) (r1 := 17) (r2 := 0) (r3 := 0) rfl (by omega) (fun (q19 : 1 ≠ 0) => ?_) (fun (q19 : ¬ (1 ≠ 0)) => by exfalso; omega)
    refine wi_aload_n (i := 0) (x := 236) (nx := 18) (r1 := 0) (r2 := 0) (r3 := 0) rfl rfl ?_
    refine wr_V (k0 := 236) (rest := []) (as := [.ref 236]) (nx := 21) (r1 := 225) (r2 := 0) (r3 := 11) rfl rfl rfl (of_decide_eq_true rfl) rfl rfl (by decide) rfl rfl (of_decide_eq_true rfl) (of_decide_eq_true rfl) ?_
    refine ct_225_236 hcr  g14    (fun h20 g20 u20 (p20_0 : 1 ≤ (h20 236 8) ∨ (h14 236 8) = 0) => ?_)
    have F21 := F15.then (by decide +kernel) u20
    have b22 := gi_b (lo := 0) (hi := 5) g20 236 8 rfl
    refine wk_n ?_
    refine wi_aload_n (i := 0) (x := 236) (nx := 22) (r1 := 0) (r2 := 0) (r3 := 0) rfl rfl ?_
    refine wr_V (k0 := 236) (rest := []) (as := [.ref 236]) (nx := 25) (r1 := 219) (r2 := 0) (r3 := 11) rfl rfl rfl (of_decide_eq_true rfl) rfl rfl (by decide) rfl rfl (of_decide_eq_true rfl) (of_decide_eq_true rfl) ?_
    refine wi_aload_n (i := 0) (x := 236) (nx := 1) (r1 := 0) (r2 := 0) (r3 := 0) rfl rfl ?_
    refine wr_gi0 (k0 := 236) (x := h20 236 8) (nx := 4) (r1 := 11) (r2 := 8) (r3 := 0) rfl rfl (by decide) rfl ⟨rfl, rfl⟩ rfl rfl ?_
    refine wi_if (cd := .ne) (nx := 7) (r1 := 11) (r2 := 0) (r3 := 0) rfl (by omega) (fun (q23 : (h20 236 8) ≠ 0) => ?_) (fun (q23 : ¬ ((h20 236 8) ≠ 0)) => ?_)
    ·
      refine wi_iconst (n := 0) (nx := 12) (r1 := 0) (r2 := 0) (r3 := 0) rfl ?_
      refine wi_zreturn (nx := 13) (r1 := 0) (r2 := 0) (r3 := 0) rfl rfl (by omega) ?_
      refine wk_i ?_
      refine wi_if (cd := .eq) (nx := 28) (r1 := 41) (r2 := 0) (r3 := 0) rfl (by omega) (fun (q24 : 0 = 0) => ?_) (fun (q24 : ¬ (0 = 0)) => by exfalso; omega)
      refine wi_aload_n (i := 0) (x := 236) (nx := 42) (r1 := 0) (r2 := 0) (r3 := 0) rfl rfl ?_
      refine wr_V (k0 := 236) (rest := []) (as := [.ref 236]) (nx := 45) (r1 := 219) (r2 := 0) (r3 := 11) rfl rfl rfl (of_decide_eq_true rfl) rfl rfl (by decide) rfl rfl (of_decide_eq_true rfl) (of_decide_eq_true rfl) ?_
      refine wi_aload_n (i := 0) (x := 236) (nx := 1) (r1 := 0) (r2 := 0) (r3 := 0) rfl rfl ?_
      refine wr_gi0 (k0 := 236) (x := h20 236 8) (nx := 4) (r1 := 11) (r2 := 8) (r3 := 0) rfl rfl (by decide) rfl ⟨rfl, rfl⟩ rfl rfl ?_
      refine wi_if (cd := .ne) (nx := 7) (r1 := 11) (r2 := 0) (r3 := 0) rfl (by omega) (fun (q25 : (h20 236 8) ≠ 0) => ?_) (fun (q25 : ¬ ((h20 236 8) ≠ 0)) => by exfalso; omega)
      refine wi_iconst (n := 0) (nx := 12) (r1 := 0) (r2 := 0) (r3 := 0) rfl ?_
      refine wi_zreturn (nx := 13) (r1 := 0) (r2 := 0) (r3 := 0) rfl rfl (by omega) ?_
      refine wk_i ?_
      refine wi_if (cd := .ne) (nx := 48) (r1 := 49) (r2 := 0) (r3 := 0) rfl (by omega) (fun (q26 : 0 ≠ 0) => by exfalso; omega) (fun (q26 : ¬ (0 ≠ 0)) => ?_)
      refine wi_return (nx := 49) (r1 := 0) (r2 := 0) (r3 := 0) rfl rfl ?_
      have e27 : h20 236 4 = h14 236 4 := (u20 236 4 rfl)
      have e28 : h20 239 5 = h 239 5 := ((u20 239 5 rfl).trans (u14 239 5 rfl))
      have e29 : h20 239 7 = h 239 7 := ((u20 239 7 rfl).trans (u14 239 7 rfl))
      have e30 : h20 239 15 = h 239 15 := ((u20 239 15 rfl).trans (u14 239 15 rfl))
      have e31 : h20 239 16 = h 239 16 := ((u20 239 16 rfl).trans (u14 239 16 rfl))
      have e32 : h20 239 17 = h 239 17 := ((u20 239 17 rfl).trans (u14 239 17 rfl))
      have e33 : h20 239 18 = h 239 18 := ((u20 239 18 rfl).trans (u14 239 18 rfl))
      exact k h20 g20 F21 (show (h 236 4) ≤ (h20 236 4) by omega) (show (h20 236 4) ≤ (h 236 3) by omega) (show 1 ≤ (h20 236 8) ∨ ((h20 239 5) ≤ 9 ∧ 1 ≤ (h20 239 5) ∧ (h20 239 7) ≤ 3 ∧ (h20 239 15) ≤ 6 ∧ (h20 239 16) ≤ 6 ∧ (h20 239 17) ≤ 6 ∧ (h20 239 18) ≤ 6) by omega)
    ·
      refine wi_iconst (n := 1) (nx := 8) (r1 := 0) (r2 := 0) (r3 := 0) rfl ?_
      refine wi_goto (nx := 11) (r1 := 12) (r2 := 0) (r3 := 0) rfl ?_
      refine wi_zreturn (nx := 13) (r1 := 0) (r2 := 0) (r3 := 0) rfl rfl (by omega) ?_
      refine wk_i ?_
      refine wi_if (cd := .eq) (nx := 28) (r1 := 41) (r2 := 0) (r3 := 0) rfl (by omega) (fun (q24 : 1 = 0) => by exfalso; omega) (fun (q24 : ¬ (1 = 0)) => ?_)
      refine wi_aload_n (i := 0) (x := 236) (nx := 29) (r1 := 0) (r2 := 0) (r3 := 0) rfl rfl ?_
      refine wr_V (k0 := 236) (rest := []) (as := [.ref 236]) (nx := 32) (r1 := 227) (r2 := 0) (r3 := 11) rfl rfl rfl (of_decide_eq_true rfl) rfl rfl (by decide) rfl rfl (of_decide_eq_true rfl) (of_decide_eq_true rfl) ?_
      refine ct_227_236 hcr  g20    (fun z26  (fz26 : 0 ≤ z26 ∧ z26 ≤ 5) (p25_0 : z26 ≤ (h20 239 0)) => ?_)
      refine wk_i ?_
      refine wi_iload_n (i := 1) (e := h 239 0) (nx := 33) (r1 := 0) (r2 := 0) (r3 := 0) rfl rfl ?_
      refine wi_icmp (cd := .ge) (nx := 36) (r1 := 41) (r2 := 0) (r3 := 0) rfl (by omega) (by omega) (fun (q27 : (h 239 0) ≤ z26) => ?_) (fun (q27 : ¬ ((h 239 0) ≤ z26)) => ?_)
      ·
        refine wi_aload_n (i := 0) (x := 236) (nx := 42) (r1 := 0) (r2 := 0) (r3 := 0) rfl rfl ?_
        refine wr_V (k0 := 236) (rest := []) (as := [.ref 236]) (nx := 45) (r1 := 219) (r2 := 0) (r3 := 11) rfl rfl rfl (of_decide_eq_true rfl) rfl rfl (by decide) rfl rfl (of_decide_eq_true rfl) (of_decide_eq_true rfl) ?_
        refine wi_aload_n (i := 0) (x := 236) (nx := 1) (r1 := 0) (r2 := 0) (r3 := 0) rfl rfl ?_
        refine wr_gi0 (k0 := 236) (x := h20 236 8) (nx := 4) (r1 := 11) (r2 := 8) (r3 := 0) rfl rfl (by decide) rfl ⟨rfl, rfl⟩ rfl rfl ?_
        refine wi_if (cd := .ne) (nx := 7) (r1 := 11) (r2 := 0) (r3 := 0) rfl (by omega) (fun (q28 : (h20 236 8) ≠ 0) => by exfalso; omega) (fun (q28 : ¬ ((h20 236 8) ≠ 0)) => ?_)
        refine wi_iconst (n := 1) (nx := 8) (r1 := 0) (r2 := 0) (r3 := 0) rfl ?_
        refine wi_goto (nx := 11) (r1 := 12) (r2 := 0) (r3 := 0) rfl ?_
        refine wi_zreturn (nx := 13) (r1 := 0) (r2 := 0) (r3 := 0) rfl rfl (by omega) ?_
        refine wk_i ?_
        refine wi_if (cd := .ne) (nx := 48) (r1 := 49) (r2 := 0) (r3 := 0) rfl (by omega) (fun (q29 : 1 ≠ 0) => ?_) (fun (q29 : ¬ (1 ≠ 0)) => by exfalso; omega)
        refine wi_aload_n (i := 0) (x := 236) (nx := 50) (r1 := 0) (r2 := 0) (r3 := 0) rfl rfl ?_
        refine wr_gr (k0 := 236) (x := 244) (nx := 53) (r1 := 11) (r2 := 19) (r3 := 0) rfl rfl (by decide) rfl ⟨rfl, rfl⟩ rfl ?_
        refine wi_iload_n (i := 1) (e := h 239 0) (nx := 54) (r1 := 0) (r2 := 0) (r3 := 0) rfl rfl ?_
        refine wi_aload_n (i := 0) (x := 236) (nx := 55) (r1 := 0) (r2 := 0) (r3 := 0) rfl rfl ?_
        have b30 := gi_b (lo := -9223372036854775808) (hi := 9223372036854775807) g14 236 12 rfl
        refine wr_gi1 (k0 := 236) (x := h14 236 12) (nx := 58) (r1 := 11) (r2 := 12) (r3 := 0) rfl rfl (by decide) rfl ⟨rfl, rfl⟩ rfl (u20 236 12 rfl) ?_
        obtain ⟨i31, ei31⟩ : ∃ q : Nat, (h 239 0) = (q : Int) := ⟨(h 239 0).toNat, by omega⟩
        refine wr_ls (k0 := 244) (a := h 239 0) (f := i31) (x := h14 236 12) (bl := -9223372036854775808) (bh := 9223372036854775807) (nx := 59) (r1 := 0) (r2 := 0) (r3 := 0) rfl (by decide) rfl (by omega) (by omega) (by decide) g20 rfl (by omega) (fun h32 g32 w32 u32 => ?_)
        have F33 := F21.then rfl (FR.rngp (lo := 244) (hi := 244) u32 (by decide))
        refine wi_aload_n (i := 0) (x := 236) (nx := 60) (r1 := 0) (r2 := 0) (r3 := 0) rfl rfl ?_
        refine wr_V (k0 := 236) (rest := []) (as := [.ref 236]) (nx := 63) (r1 := 215) (r2 := 0) (r3 := 11) rfl rfl rfl (of_decide_eq_true rfl) rfl rfl (by decide) rfl rfl (of_decide_eq_true rfl) (of_decide_eq_true rfl) ?_
        have e35 : h32 236 4 = h14 236 4 := ((u32 236 4 (fn_a (by omega) fn_0)).trans (u20 236 4 rfl))
        have e36 : h32 236 3 = h 236 3 := ((u32 236 3 (fn_a (by omega) fn_0)).trans ((u20 236 3 rfl).trans (u14 236 3 rfl)))
        refine ct_215_236 hcr  g32   (show (h32 236 4) ≤ (h32 236 3) by omega) (fun h34 g34 u34 (p34_0 : (h32 236 4) ≤ (h34 236 4)) (p34_1 : (h34 236 4) ≤ (h32 236 3)) (p34_2 : (h34 236 6) = 0 ∨ (h32 236 4) + 1 ≤ (h34 236 4)) => ?_)
        have F37 := F33.then (by decide +kernel) u34
        have b38 := gi_b (lo := 0) (hi := 800) g34 236 4 rfl
        have b39 := gi_b (lo := 0) (hi := 4) g34 236 6 rfl
        refine wk_n ?_
        refine wi_aload_n (i := 0) (x := 236) (nx := 64) (r1 := 0) (r2 := 0) (r3 := 0) rfl rfl ?_
        refine wr_gr (k0 := 236) (x := 239) (nx := 67) (r1 := 11) (r2 := 14) (r3 := 0) rfl rfl (by decide) rfl ⟨rfl, rfl⟩ rfl ?_
        refine wi_bipush (n := 10) (nx := 69) (r1 := 0) (r2 := 0) (r3 := 0) rfl (by decide) ?_
        refine wi_iload_n (i := 1) (e := h 239 0) (nx := 70) (r1 := 0) (r2 := 0) (r3 := 0) rfl rfl ?_
        refine wr_add (nx := 71) (r1 := 0) (r2 := 0) (r3 := 0) rfl (fun e40 (fe40 : e40 = 10 + (h 239 0)) => ?_)
        refine wi_aload_n (i := 0) (x := 236) (nx := 72) (r1 := 0) (r2 := 0) (r3 := 0) rfl rfl ?_
        refine wi_ldc2_w (e := 109099237) (nx := 75) (r1 := 109099237) (r2 := 0) (r3 := 0) rfl (by decide) ?_
        refine wi_iconst (n := 0) (nx := 76) (r1 := 0) (r2 := 0) (r3 := 0) rfl ?_
        refine wi_bipush (n := 99) (nx := 78) (r1 := 0) (r2 := 0) (r3 := 0) rfl (by decide) ?_
        refine wr_V (k0 := 236) (rest := [vi e40, .ref 239]) (as := [.ref 236, vl 109099237, vi 0, vi 99]) (nx := 81) (r1 := 228) (r2 := 3) (r3 := 11) rfl rfl rfl (of_decide_eq_true rfl) rfl rfl (by decide) rfl rfl (of_decide_eq_true rfl) (of_decide_eq_true rfl) ?_
        have e42 : h34 236 3 = h 236 3 := ((u34 236 3 rfl).trans ((u32 236 3 (fn_a (by omega) fn_0)).trans ((u20 236 3 rfl).trans (u14 236 3 rfl))))
        refine ct_228_236 hcr  g34 109099237 0 99 (by omega) (by omega) (by omega) (show (h34 236 4) ≤ (h34 236 3) by omega) (fun h41 z43 g41 u41 (fz43 : 0 ≤ z43 ∧ z43 ≤ 999) (p41_0 : (h34 236 4) ≤ (h41 236 4)) (p41_1 : (h41 236 4) ≤ (h34 236 3)) (p41_2 : 1 ≤ (h41 236 8) ∨ (h34 236 8) = 0) (p41_3 : 1 ≤ (h41 236 8) ∨ (0 ≤ z43 ∧ z43 ≤ 99)) => ?_)
        have F44 := F37.then (by decide +kernel) u41
        have b45 := gi_b (lo := 0) (hi := 800) g41 236 4 rfl
        have b46 := gi_b (lo := 0) (hi := 5) g41 236 8 rfl
        refine wk_i ?_
        obtain ⟨i47, ei47⟩ : ∃ q : Nat, e40 = (q : Int) := ⟨(e40).toNat, by omega⟩
        refine wr_is (k0 := 239) (a := e40) (f := i47) (x := z43) (bl := 0) (bh := 999) (nx := 82) (r1 := 0) (r2 := 0) (r3 := 0) rfl (by decide) rfl (by omega) (by omega) (by decide) g41 (gi_rq 10 5 (fun _ => rfl) (by decide +kernel) (by omega)) (by omega) (fun h48 g48 w48 u48 => ?_)
        have F49 := F44.then rfl (FR.idx (p := 10) (q := 14) u48 (by omega))
        refine wi_aload_n (i := 0) (x := 236) (nx := 83) (r1 := 0) (r2 := 0) (r3 := 0) rfl rfl ?_
        refine wr_V (k0 := 236) (rest := []) (as := [.ref 236]) (nx := 86) (r1 := 219) (r2 := 0) (r3 := 11) rfl rfl rfl (of_decide_eq_true rfl) rfl rfl (by decide) rfl rfl (of_decide_eq_true rfl) (of_decide_eq_true rfl) ?_
        refine wi_aload_n (i := 0) (x := 236) (nx := 1) (r1 := 0) (r2 := 0) (r3 := 0) rfl rfl ?_
        refine wr_gi0 (k0 := 236) (x := h41 236 8) (nx := 4) (r1 := 11) (r2 := 8) (r3 := 0) rfl rfl (by decide) rfl ⟨rfl, rfl⟩ rfl (u48 236 8 (fn_a (by omega) fn_0)) ?_
        refine wi_if (cd := .ne) (nx := 7) (r1 := 11) (r2 := 0) (r3 := 0) rfl (by omega) (fun (q50 : (h41 236 8) ≠ 0) => ?_) (fun (q50 : ¬ ((h41 236 8) ≠ 0)) => ?_)
        ·
          refine wi_iconst (n := 0) (nx := 12) (r1 := 0) (r2 := 0) (r3 := 0) rfl ?_
          refine wi_zreturn (nx := 13) (r1 := 0) (r2 := 0) (r3 := 0) rfl rfl (by omega) ?_
          refine wk_i ?_
          refine wi_if (cd := .eq) (nx := 89) (r1 := 99) (r2 := 0) (r3 := 0) rfl (by omega) (fun (q51 : 0 = 0) => ?_) (fun (q51 : ¬ (0 = 0)) => by exfalso; omega)
          refine wi_return (nx := 100) (r1 := 0) (r2 := 0) (r3 := 0) rfl rfl ?_
          have e52 : h48 236 4 = h41 236 4 := (u48 236 4 (fn_a (by omega) fn_0))
          have e53 : h48 236 8 = h41 236 8 := (u48 236 8 (fn_a (by omega) fn_0))
          have e54 : h48 239 5 = h 239 5 := ((u48 239 5 (fn_i (by omega) fn_0)).trans ((u41 239 5 rfl).trans ((u34 239 5 rfl).trans ((u32 239 5 (fn_a (by omega) fn_0)).trans ((u20 239 5 rfl).trans (u14 239 5 rfl))))))
          have e55 : h48 239 7 = h 239 7 := ((u48 239 7 (fn_i (by omega) fn_0)).trans ((u41 239 7 rfl).trans ((u34 239 7 rfl).trans ((u32 239 7 (fn_a (by omega) fn_0)).trans ((u20 239 7 rfl).trans (u14 239 7 rfl))))))
          have e56 : h48 239 15 = h 239 15 := ((u48 239 15 (fn_i (by omega) fn_0)).trans ((u41 239 15 rfl).trans ((u34 239 15 rfl).trans ((u32 239 15 (fn_a (by omega) fn_0)).trans ((u20 239 15 rfl).trans (u14 239 15 rfl))))))
          have e57 : h48 239 16 = h 239 16 := ((u48 239 16 (fn_i (by omega) fn_0)).trans ((u41 239 16 rfl).trans ((u34 239 16 rfl).trans ((u32 239 16 (fn_a (by omega) fn_0)).trans ((u20 239 16 rfl).trans (u14 239 16 rfl))))))
          have e58 : h48 239 17 = h 239 17 := ((u48 239 17 (fn_i (by omega) fn_0)).trans ((u41 239 17 rfl).trans ((u34 239 17 rfl).trans ((u32 239 17 (fn_a (by omega) fn_0)).trans ((u20 239 17 rfl).trans (u14 239 17 rfl))))))
          have e59 : h48 239 18 = h 239 18 := ((u48 239 18 (fn_i (by omega) fn_0)).trans ((u41 239 18 rfl).trans ((u34 239 18 rfl).trans ((u32 239 18 (fn_a (by omega) fn_0)).trans ((u20 239 18 rfl).trans (u14 239 18 rfl))))))
          exact k h48 g48 F49 (show (h 236 4) ≤ (h48 236 4) by omega) (show (h48 236 4) ≤ (h 236 3) by omega) (show 1 ≤ (h48 236 8) ∨ ((h48 239 5) ≤ 9 ∧ 1 ≤ (h48 239 5) ∧ (h48 239 7) ≤ 3 ∧ (h48 239 15) ≤ 6 ∧ (h48 239 16) ≤ 6 ∧ (h48 239 17) ≤ 6 ∧ (h48 239 18) ≤ 6) by omega)
        ·
          refine wi_iconst (n := 1) (nx := 8) (r1 := 0) (r2 := 0) (r3 := 0) rfl ?_
          refine wi_goto (nx := 11) (r1 := 12) (r2 := 0) (r3 := 0) rfl ?_
          refine wi_zreturn (nx := 13) (r1 := 0) (r2 := 0) (r3 := 0) rfl rfl (by omega) ?_
          refine wk_i ?_
          refine wi_if (cd := .eq) (nx := 89) (r1 := 99) (r2 := 0) (r3 := 0) rfl (by omega) (fun (q51 : 1 = 0) => by exfalso; omega) (fun (q51 : ¬ (1 = 0)) => ?_)
          refine wi_aload_n (i := 0) (x := 236) (nx := 90) (r1 := 0) (r2 := 0) (r3 := 0) rfl rfl ?_
          refine wr_gr (k0 := 236) (x := 239) (nx := 93) (r1 := 11) (r2 := 14) (r3 := 0) rfl rfl (by decide) rfl ⟨rfl, rfl⟩ rfl ?_
          refine wi_iconst (n := 0) (nx := 94) (r1 := 0) (r2 := 0) (r3 := 0) rfl ?_
          refine wi_dup2 (nx := 95) (r1 := 0) (r2 := 0) (r3 := 0) rfl rfl rfl ?_
          refine wr_ia (k0 := 239) (a := 0) (f := 0) (x := h 239 0) (nx := 96) (r1 := 0) (r2 := 0) (r3 := 0) rfl (by decide) rfl (by omega) (by omega) (by decide) ((u48 239 0 (fn_i (by omega) fn_0)).trans ((u41 239 0 rfl).trans ((u34 239 0 rfl).trans ((u32 239 0 (fn_a (by omega) fn_0)).trans ((u20 239 0 rfl).trans (u14 239 0 rfl)))))) ?_
          refine wi_iconst (n := 1) (nx := 97) (r1 := 0) (r2 := 0) (r3 := 0) rfl ?_
          refine wr_add (nx := 98) (r1 := 0) (r2 := 0) (r3 := 0) rfl (fun e52 (fe52 : e52 = (h 239 0) + 1) => ?_)
          refine wr_is (k0 := 239) (a := 0) (f := 0) (x := e52) (bl := 0) (bh := 5) (nx := 99) (r1 := 0) (r2 := 0) (r3 := 0) rfl (by decide) rfl (by omega) (by omega) (by decide) g48 rfl (by omega) (fun h53 g53 w53 u53 => ?_)
          have F54 := F49.then rfl u53
          refine wi_return (nx := 100) (r1 := 0) (r2 := 0) (r3 := 0) rfl rfl ?_
          have e55 : h53 236 4 = h41 236 4 := ((u53 236 4 rfl).trans (u48 236 4 (fn_a (by omega) fn_0)))
          have e56 : h53 236 8 = h41 236 8 := ((u53 236 8 rfl).trans (u48 236 8 (fn_a (by omega) fn_0)))
          have e57 : h53 239 5 = h 239 5 := ((u53 239 5 rfl).trans ((u48 239 5 (fn_i (by omega) fn_0)).trans ((u41 239 5 rfl).trans ((u34 239 5 rfl).trans ((u32 239 5 (fn_a (by omega) fn_0)).trans ((u20 239 5 rfl).trans (u14 239 5 rfl)))))))
          have e58 : h53 239 7 = h 239 7 := ((u53 239 7 rfl).trans ((u48 239 7 (fn_i (by omega) fn_0)).trans ((u41 239 7 rfl).trans ((u34 239 7 rfl).trans ((u32 239 7 (fn_a (by omega) fn_0)).trans ((u20 239 7 rfl).trans (u14 239 7 rfl)))))))
          have e59 : h53 239 15 = h 239 15 := ((u53 239 15 rfl).trans ((u48 239 15 (fn_i (by omega) fn_0)).trans ((u41 239 15 rfl).trans ((u34 239 15 rfl).trans ((u32 239 15 (fn_a (by omega) fn_0)).trans ((u20 239 15 rfl).trans (u14 239 15 rfl)))))))
          have e60 : h53 239 16 = h 239 16 := ((u53 239 16 rfl).trans ((u48 239 16 (fn_i (by omega) fn_0)).trans ((u41 239 16 rfl).trans ((u34 239 16 rfl).trans ((u32 239 16 (fn_a (by omega) fn_0)).trans ((u20 239 16 rfl).trans (u14 239 16 rfl)))))))
          have e61 : h53 239 17 = h 239 17 := ((u53 239 17 rfl).trans ((u48 239 17 (fn_i (by omega) fn_0)).trans ((u41 239 17 rfl).trans ((u34 239 17 rfl).trans ((u32 239 17 (fn_a (by omega) fn_0)).trans ((u20 239 17 rfl).trans (u14 239 17 rfl)))))))
          have e62 : h53 239 18 = h 239 18 := ((u53 239 18 rfl).trans ((u48 239 18 (fn_i (by omega) fn_0)).trans ((u41 239 18 rfl).trans ((u34 239 18 rfl).trans ((u32 239 18 (fn_a (by omega) fn_0)).trans ((u20 239 18 rfl).trans (u14 239 18 rfl)))))))
          exact k h53 g53 F54 (show (h 236 4) ≤ (h53 236 4) by omega) (show (h53 236 4) ≤ (h 236 3) by omega) (show 1 ≤ (h53 236 8) ∨ ((h53 239 5) ≤ 9 ∧ 1 ≤ (h53 239 5) ∧ (h53 239 7) ≤ 3 ∧ (h53 239 15) ≤ 6 ∧ (h53 239 16) ≤ 6 ∧ (h53 239 17) ≤ 6 ∧ (h53 239 18) ≤ 6) by omega)
      ·
        refine wi_aload_n (i := 0) (x := 236) (nx := 37) (r1 := 0) (r2 := 0) (r3 := 0) rfl rfl ?_
        refine wi_iconst (n := 3) (nx := 38) (r1 := 0) (r2 := 0) (r3 := 0) rfl ?_
        refine wr_V (k0 := 236) (rest := []) (as := [.ref 236, vi 3]) (nx := 41) (r1 := 224) (r2 := 1) (r3 := 11) rfl rfl rfl (of_decide_eq_true rfl) rfl rfl (by decide) rfl rfl (of_decide_eq_true rfl) (of_decide_eq_true rfl) ?_
        refine ct_224_236 hcr  g20 3 (by omega)  (fun h28 g28 u28 (p28_0 : 1 ≤ (h28 236 8)) => ?_)
        have F29 := F21.then (by decide +kernel) u28
        have b30 := gi_b (lo := 0) (hi := 5) g28 236 8 rfl
        refine wk_n ?_
        refine wi_aload_n (i := 0) (x := 236) (nx := 42) (r1 := 0) (r2 := 0) (r3 := 0) rfl rfl ?_
        refine wr_V (k0 := 236) (rest := []) (as := [.ref 236]) (nx := 45) (r1 := 219) (r2 := 0) (r3 := 11) rfl rfl rfl (of_decide_eq_true rfl) rfl rfl (by decide) rfl rfl (of_decide_eq_true rfl) (of_decide_eq_true rfl) ?_
        refine wi_aload_n (i := 0) (x := 236) (nx := 1) (r1 := 0) (r2 := 0) (r3 := 0) rfl rfl ?_
        refine wr_gi0 (k0 := 236) (x := h28 236 8) (nx := 4) (r1 := 11) (r2 := 8) (r3 := 0) rfl rfl (by decide) rfl ⟨rfl, rfl⟩ rfl rfl ?_
        refine wi_if (cd := .ne) (nx := 7) (r1 := 11) (r2 := 0) (r3 := 0) rfl (by omega) (fun (q31 : (h28 236 8) ≠ 0) => ?_) (fun (q31 : ¬ ((h28 236 8) ≠ 0)) => by exfalso; omega)
        refine wi_iconst (n := 0) (nx := 12) (r1 := 0) (r2 := 0) (r3 := 0) rfl ?_
        refine wi_zreturn (nx := 13) (r1 := 0) (r2 := 0) (r3 := 0) rfl rfl (by omega) ?_
        refine wk_i ?_
        refine wi_if (cd := .ne) (nx := 48) (r1 := 49) (r2 := 0) (r3 := 0) rfl (by omega) (fun (q32 : 0 ≠ 0) => by exfalso; omega) (fun (q32 : ¬ (0 ≠ 0)) => ?_)
        refine wi_return (nx := 49) (r1 := 0) (r2 := 0) (r3 := 0) rfl rfl ?_
        have e33 : h28 236 4 = h14 236 4 := ((u28 236 4 rfl).trans (u20 236 4 rfl))
        have e34 : h28 239 5 = h 239 5 := ((u28 239 5 rfl).trans ((u20 239 5 rfl).trans (u14 239 5 rfl)))
        have e35 : h28 239 7 = h 239 7 := ((u28 239 7 rfl).trans ((u20 239 7 rfl).trans (u14 239 7 rfl)))
        have e36 : h28 239 15 = h 239 15 := ((u28 239 15 rfl).trans ((u20 239 15 rfl).trans (u14 239 15 rfl)))
        have e37 : h28 239 16 = h 239 16 := ((u28 239 16 rfl).trans ((u20 239 16 rfl).trans (u14 239 16 rfl)))
        have e38 : h28 239 17 = h 239 17 := ((u28 239 17 rfl).trans ((u20 239 17 rfl).trans (u14 239 17 rfl)))
        have e39 : h28 239 18 = h 239 18 := ((u28 239 18 rfl).trans ((u20 239 18 rfl).trans (u14 239 18 rfl)))
        exact k h28 g28 F29 (show (h 236 4) ≤ (h28 236 4) by omega) (show (h28 236 4) ≤ (h 236 3) by omega) (show 1 ≤ (h28 236 8) ∨ ((h28 239 5) ≤ 9 ∧ 1 ≤ (h28 239 5) ∧ (h28 239 7) ≤ 3 ∧ (h28 239 15) ≤ 6 ∧ (h28 239 16) ≤ 6 ∧ (h28 239 17) ≤ 6 ∧ (h28 239 18) ≤ 6) by omega)
  ·
    refine wi_aload_n (i := 0) (x := 236) (nx := 11) (r1 := 0) (r2 := 0) (r3 := 0) rfl rfl ?_
    refine wi_iconst (n := 5) (nx := 12) (r1 := 0) (r2 := 0) (r3 := 0) rfl ?_
    refine wr_V (k0 := 236) (rest := []) (as := [.ref 236, vi 5]) (nx := 15) (r1 := 224) (r2 := 1) (r3 := 11) rfl rfl rfl (of_decide_eq_true rfl) rfl rfl (by decide) rfl rfl (of_decide_eq_true rfl) (of_decide_eq_true rfl) ?_
    refine ct_224_236 hcr  g 5 (by omega)  (fun h12 g12 u12 (p12_0 : 1 ≤ (h12 236 8)) => ?_)
    have F13 := F0.then (by decide +kernel) u12
    have b14 := gi_b (lo := 0) (hi := 5) g12 236 8 rfl
    refine wk_n ?_
    refine wi_aload_n (i := 0) (x := 236) (nx := 16) (r1 := 0) (r2 := 0) (r3 := 0) rfl rfl ?_
    refine wr_V (k0 := 236) (rest := []) (as := [.ref 236]) (nx := 19) (r1 := 219) (r2 := 0) (r3 := 11) rfl rfl rfl (of_decide_eq_true rfl) rfl rfl (by decide) rfl rfl (of_decide_eq_true rfl) (of_decide_eq_true rfl) ?_
    refine wi_aload_n (i := 0) (x := 236) (nx := 1) (r1 := 0) (r2 := 0) (r3 := 0) rfl rfl ?_
    refine wr_gi0 (k0 := 236) (x := h12 236 8) (nx := 4) (r1 := 11) (r2 := 8) (r3 := 0) rfl rfl (by decide) rfl ⟨rfl, rfl⟩ rfl rfl ?_
    refine wi_if (cd := .ne) (nx := 7) (r1 := 11) (r2 := 0) (r3 := 0) rfl (by omega) (fun (q15 : (h12 236 8) ≠ 0) => ?_) (fun (q15 : ¬ ((h12 236 8) ≠ 0)) => by exfalso; omega)
    refine wi_iconst (n := 0) (nx := 12) (r1 := 0) (r2 := 0) (r3 := 0) rfl ?_
    refine wi_zreturn (nx := 13) (r1 := 0) (r2 := 0) (r3 := 0) rfl rfl (by omega) ?_
    refine wk_i ?_
    refine wi_if (cd := .eq) (nx := 22) (r1 := 26) (r2 := 0) (r3 := 0) rfl (by omega) (fun (q16 : 0 = 0) => ?_) (fun (q16 : ¬ (0 = 0)) => by exfalso; omega)
    refine wi_aload_n (i := 0) (x := 236) (nx := 27) (r1 := 0) (r2 := 0) (r3 := 0) rfl rfl ?_
    refine wr_V (k0 := 236) (rest := []) (as := [.ref 236]) (nx := 30) (r1 := 219) (r2 := 0) (r3 := 11) rfl rfl rfl (of_decide_eq_true rfl) rfl rfl (by decide) rfl rfl (of_decide_eq_true rfl) (of_decide_eq_true rfl) ?_
    refine wi_aload_n (i := 0) (x := 236) (nx := 1) (r1 := 0) (r2 := 0) (r3 := 0) rfl rfl ?_
    refine wr_gi0 (k0 := 236) (x := h12 236 8) (nx := 4) (r1 := 11) (r2 := 8) (r3 := 0) rfl rfl (by decide) rfl ⟨rfl, rfl⟩ rfl rfl ?_
    refine wi_if (cd := .ne) (nx := 7) (r1 := 11) (r2 := 0) (r3 := 0) rfl (by omega) (fun (q17 : (h12 236 8) ≠ 0) => ?_) (fun (q17 : ¬ ((h12 236 8) ≠ 0)) => by exfalso; omega)
    refine wi_iconst (n := 0) (nx := 12) (r1 := 0) (r2 := 0) (r3 := 0) rfl ?_
    refine wi_zreturn (nx := 13) (r1 := 0) (r2 := 0) (r3 := 0) rfl rfl (by omega) ?_
    refine wk_i ?_
    refine wi_zreturn (nx := 31) (r1 := 0) (r2 := 0) (r3 := 0) rfl rfl (by omega) ?_
    refine wk_i ?_
    refine wi_if (cd := .ne) (nx := 16) (r1 := 17) (r2 := 0) (r3 := 0) rfl (by omega) (fun (q18 : 0 ≠ 0) => by exfalso; omega) (fun (q18 : ¬ (0 ≠ 0)) => ?_)
    refine wi_return (nx := 17) (r1 := 0) (r2 := 0) (r3 := 0) rfl rfl ?_
    have e19 : h12 236 4 = h 236 4 := (u12 236 4 rfl)
    have e20 : h12 239 5 = h 239 5 := (u12 239 5 rfl)
    have e21 : h12 239 7 = h 239 7 := (u12 239 7 rfl)
    have e22 : h12 239 15 = h 239 15 := (u12 239 15 rfl)
    have e23 : h12 239 16 = h 239 16 := (u12 239 16 rfl)
    have e24 : h12 239 17 = h 239 17 := (u12 239 17 rfl)
    have e25 : h12 239 18 = h 239 18 := (u12 239 18 rfl)
    exact k h12 g12 F13 (show (h 236 4) ≤ (h12 236 4) by omega) (show (h12 236 4) ≤ (h 236 3) by omega) (show 1 ≤ (h12 236 8) ∨ ((h12 239 5) ≤ 9 ∧ 1 ≤ (h12 239 5) ∧ (h12 239 7) ≤ 3 ∧ (h12 239 15) ≤ 6 ∧ (h12 239 16) ≤ 6 ∧ (h12 239 17) ≤ 6 ∧ (h12 239 18) ≤ 6) by omega)
-- method 220: Model.statement()V
set_option maxHeartbeats 100000000 in
theorem ct_220_236 {L : Nat} {xs : Nat → Int32} {d b c : Nat} {h : hp} {cr : Nat → Nat → Option Nat} {Q : hp_Q} (hcr : CR cr)  (g : GI h)   (pp0 : h 236 4 ≤ h 236 3) (pp1 : h 236 8 = 0) (pp2 : h 239 5 ≤ 9) (pp3 : 1 ≤ h 239 5) (pp4 : h 239 7 ≤ 3) (pp5 : h 239 15 ≤ 6) (pp6 : h 239 16 ≤ 6) (pp7 : h 239 17 ≤ 6) (pp8 : h 239 18 ≤ 6) (k : ∀ (h2 : hp) , GI h2 → FR [(244, 244, none), (236, 236, some (4, 4)), (236, 236, some (5, 5)), (236, 236, some (6, 6)), (236, 236, some (7, 7)), (236, 236, some (8, 8)), (236, 236, some (9, 9)), (236, 236, some (12, 12)), (236, 236, some (23, 23)), (236, 236, some (24, 24)), (236, 236, some (25, 25)), (236, 236, some (26, 26)), (239, 239, some (0, 0)), (239, 239, some (1, 1)), (239, 239, some (2, 2)), (239, 239, some (3, 3)), (239, 239, some (4, 4)), (239, 239, some (5, 5)), (239, 239, some (6, 6)), (239, 239, some (7, 7)), (239, 239, some (8, 8)), (239, 239, some (9, 9)), (239, 239, some (10, 14)), (239, 239, some (15, 15)), (239, 239, some (16, 16)), (239, 239, some (17, 17)), (239, 239, some (18, 18)), (239, 239, some (19, 30)), (239, 239, some (31, 42)), (239, 239, some (43, 54))] h h2 → (h 236 4 ≤ h2 236 4) → (h2 236 4 ≤ h 236 3) → (1 ≤ h2 236 8 ∨ (h2 239 5 ≤ 9 ∧ 1 ≤ h2 239 5 ∧ h2 239 7 ≤ 3 ∧ h2 239 15 ≤ 6 ∧ h2 239 16 ≤ 6 ∧ h2 239 17 ≤ 6 ∧ h2 239 18 ≤ 6)) → Q (.inl none) (hp_w h2 cr) b c) : wp (md_xa (L, xs)) (d + 6) 220 (0, [(0, .ref 236)], [], hp_w h cr, b, c) Q := by
  have F0 : FR [(244, 244, none), (236, 236, some (4, 4)), (236, 236, some (5, 5)), (236, 236, some (6, 6)), (236, 236, some (7, 7)), (236, 236, some (8, 8)), (236, 236, some (9, 9)), (236, 236, some (12, 12)), (236, 236, some (23, 23)), (236, 236, some (24, 24)), (236, 236, some (25, 25)), (236, 236, some (26, 26)), (239, 239, some (0, 0)), (239, 239, some (1, 1)), (239, 239, some (2, 2)), (239, 239, some (3, 3)), (239, 239, some (4, 4)), (239, 239, some (5, 5)), (239, 239, some (6, 6)), (239, 239, some (7, 7)), (239, 239, some (8, 8)), (239, 239, some (9, 9)), (239, 239, some (10, 14)), (239, 239, some (15, 15)), (239, 239, some (16, 16)), (239, 239, some (17, 17)), (239, 239, some (18, 18)), (239, 239, some (19, 30)), (239, 239, some (31, 42)), (239, 239, some (43, 54))] h h := FR.refl
  have b1 := gi_b (lo := 0) (hi := 800) g 236 4 rfl
  have b2 := gi_b (lo := 0) (hi := 800) g 236 3 rfl
  have b3 := gi_b (lo := 0) (hi := 5) g 236 8 rfl
  have b4 := gi_b (lo := 0) (hi := 999) g 239 5 rfl
  have b5 := gi_b (lo := 0) (hi := 999) g 239 7 rfl
  have b6 := gi_b (lo := 0) (hi := 999) g 239 15 rfl
  have b7 := gi_b (lo := 0) (hi := 999) g 239 16 rfl
  have b8 := gi_b (lo := 0) (hi := 999) g 239 17 rfl
  have b9 := gi_b (lo := 0) (hi := 999) g 239 18 rfl
  refine wi_aload_n (i := 0) (x := 236) (nx := 1) (r1 := 0) (r2 := 0) (r3 := 0) rfl rfl ?_
  refine wi_ldc2_w (e := 3650034) (nx := 4) (r1 := 3650034) (r2 := 0) (r3 := 0) rfl (by decide) ?_
  refine wr_V (k0 := 236) (rest := []) (as := [.ref 236, vl 3650034]) (nx := 7) (r1 := 221) (r2 := 1) (r3 := 11) rfl rfl rfl (of_decide_eq_true rfl) rfl rfl (by decide) rfl rfl (of_decide_eq_true rfl) (of_decide_eq_true rfl) ?_
  refine wi_aload_n (i := 0) (x := 236) (nx := 1) (r1 := 0) (r2 := 0) (r3 := 0) rfl rfl ?_
  refine wr_gi0 (k0 := 236) (x := h 236 8) (nx := 4) (r1 := 11) (r2 := 8) (r3 := 0) rfl rfl (by decide) rfl ⟨rfl, rfl⟩ rfl rfl ?_
  refine wi_if (cd := .ne) (nx := 7) (r1 := 28) (r2 := 0) (r3 := 0) rfl (by omega) (fun (q10 : (h 236 8) ≠ 0) => by exfalso; omega) (fun (q10 : ¬ ((h 236 8) ≠ 0)) => ?_)
  refine wi_aload_n (i := 0) (x := 236) (nx := 8) (r1 := 0) (r2 := 0) (r3 := 0) rfl rfl ?_
  have b11 := gi_b (lo := 0) (hi := 4) g 236 6 rfl
  refine wr_gi0 (k0 := 236) (x := h 236 6) (nx := 11) (r1 := 11) (r2 := 6) (r3 := 0) rfl rfl (by decide) rfl ⟨rfl, rfl⟩ rfl rfl ?_
  refine wi_iconst (n := 1) (nx := 12) (r1 := 0) (r2 := 0) (r3 := 0) rfl ?_
  refine wi_icmp (cd := .ne) (nx := 15) (r1 := 28) (r2 := 0) (r3 := 0) rfl (by omega) (by omega) (fun (q12 : (h 236 6) ≠ 1) => ?_) (fun (q12 : ¬ ((h 236 6) ≠ 1)) => ?_)
  ·
    refine wi_iconst (n := 0) (nx := 29) (r1 := 0) (r2 := 0) (r3 := 0) rfl ?_
    refine wi_zreturn (nx := 30) (r1 := 0) (r2 := 0) (r3 := 0) rfl rfl (by omega) ?_
    refine wk_i ?_
    refine wi_if (cd := .eq) (nx := 10) (r1 := 17) (r2 := 0) (r3 := 0) rfl (by omega) (fun (q13 : 0 = 0) => ?_) (fun (q13 : ¬ (0 = 0)) => by exfalso; omega)
    refine wi_aload_n (i := 0) (x := 236) (nx := 18) (r1 := 0) (r2 := 0) (r3 := 0) rfl rfl ?_
    refine wi_ldc2_w (e := 394693) (nx := 21) (r1 := 394693) (r2 := 0) (r3 := 0) rfl (by decide) ?_
    refine wr_V (k0 := 236) (rest := []) (as := [.ref 236, vl 394693]) (nx := 24) (r1 := 221) (r2 := 1) (r3 := 11) rfl rfl rfl (of_decide_eq_true rfl) rfl rfl (by decide) rfl rfl (of_decide_eq_true rfl) (of_decide_eq_true rfl) ?_
    refine wi_aload_n (i := 0) (x := 236) (nx := 1) (r1 := 0) (r2 := 0) (r3 := 0) rfl rfl ?_
    refine wr_gi0 (k0 := 236) (x := h 236 8) (nx := 4) (r1 := 11) (r2 := 8) (r3 := 0) rfl rfl (by decide) rfl ⟨rfl, rfl⟩ rfl rfl ?_
    refine wi_if (cd := .ne) (nx := 7) (r1 := 28) (r2 := 0) (r3 := 0) rfl (by omega) (fun (q14 : (h 236 8) ≠ 0) => by exfalso; omega) (fun (q14 : ¬ ((h 236 8) ≠ 0)) => ?_)
    refine wi_aload_n (i := 0) (x := 236) (nx := 8) (r1 := 0) (r2 := 0) (r3 := 0) rfl rfl ?_
    refine wr_gi0 (k0 := 236) (x := h 236 6) (nx := 11) (r1 := 11) (r2 := 6) (r3 := 0) rfl rfl (by decide) rfl ⟨rfl, rfl⟩ rfl rfl ?_
    refine wi_iconst (n := 1) (nx := 12) (r1 := 0) (r2 := 0) (r3 := 0) rfl ?_
    refine wi_icmp (cd := .ne) (nx := 15) (r1 := 28) (r2 := 0) (r3 := 0) rfl (by omega) (by omega) (fun (q15 : (h 236 6) ≠ 1) => ?_) (fun (q15 : ¬ ((h 236 6) ≠ 1)) => by exfalso; omega)
    refine wi_iconst (n := 0) (nx := 29) (r1 := 0) (r2 := 0) (r3 := 0) rfl ?_
    refine wi_zreturn (nx := 30) (r1 := 0) (r2 := 0) (r3 := 0) rfl rfl (by omega) ?_
    refine wk_i ?_
    refine wi_if (cd := .eq) (nx := 27) (r1 := 34) (r2 := 0) (r3 := 0) rfl (by omega) (fun (q16 : 0 = 0) => ?_) (fun (q16 : ¬ (0 = 0)) => by exfalso; omega)
    refine wi_aload_n (i := 0) (x := 236) (nx := 35) (r1 := 0) (r2 := 0) (r3 := 0) rfl rfl ?_
    refine wi_ldc2_w (e := 3122) (nx := 38) (r1 := 3122) (r2 := 0) (r3 := 0) rfl (by decide) ?_
    refine wr_V (k0 := 236) (rest := []) (as := [.ref 236, vl 3122]) (nx := 41) (r1 := 221) (r2 := 1) (r3 := 11) rfl rfl rfl (of_decide_eq_true rfl) rfl rfl (by decide) rfl rfl (of_decide_eq_true rfl) (of_decide_eq_true rfl) ?_
    refine wi_aload_n (i := 0) (x := 236) (nx := 1) (r1 := 0) (r2 := 0) (r3 := 0) rfl rfl ?_
    refine wr_gi0 (k0 := 236) (x := h 236 8) (nx := 4) (r1 := 11) (r2 := 8) (r3 := 0) rfl rfl (by decide) rfl ⟨rfl, rfl⟩ rfl rfl ?_
    refine wi_if (cd := .ne) (nx := 7) (r1 := 28) (r2 := 0) (r3 := 0) rfl (by omega) (fun (q17 : (h 236 8) ≠ 0) => by exfalso; omega) (fun (q17 : ¬ ((h 236 8) ≠ 0)) => ?_)
    refine wi_aload_n (i := 0) (x := 236) (nx := 8) (r1 := 0) (r2 := 0) (r3 := 0) rfl rfl ?_
    refine wr_gi0 (k0 := 236) (x := h 236 6) (nx := 11) (r1 := 11) (r2 := 6) (r3 := 0) rfl rfl (by decide) rfl ⟨rfl, rfl⟩ rfl rfl ?_
    refine wi_iconst (n := 1) (nx := 12) (r1 := 0) (r2 := 0) (r3 := 0) rfl ?_
    refine wi_icmp (cd := .ne) (nx := 15) (r1 := 28) (r2 := 0) (r3 := 0) rfl (by omega) (by omega) (fun (q18 : (h 236 6) ≠ 1) => ?_) (fun (q18 : ¬ ((h 236 6) ≠ 1)) => by exfalso; omega)
    refine wi_iconst (n := 0) (nx := 29) (r1 := 0) (r2 := 0) (r3 := 0) rfl ?_
    refine wi_zreturn (nx := 30) (r1 := 0) (r2 := 0) (r3 := 0) rfl rfl (by omega) ?_
    refine wk_i ?_
    refine wi_if (cd := .eq) (nx := 44) (r1 := 51) (r2 := 0) (r3 := 0) rfl (by omega) (fun (q19 : 0 = 0) => ?_) (fun (q19 : ¬ (0 = 0)) => by exfalso; omega)
    refine wi_aload_n (i := 0) (x := 236) (nx := 52) (r1 := 0) (r2 := 0) (r3 := 0) rfl rfl ?_
    refine wi_ldc2_w (e := 781652471) (nx := 55) (r1 := 781652471) (r2 := 0) (r3 := 0) rfl (by decide) ?_
    refine wr_V (k0 := 236) (rest := []) (as := [.ref 236, vl 781652471]) (nx := 58) (r1 := 221) (r2 := 1) (r3 := 11) rfl rfl rfl (of_decide_eq_true rfl) rfl rfl (by decide) rfl rfl (of_decide_eq_true rfl) (of_decide_eq_true rfl) ?_
    refine wi_aload_n (i := 0) (x := 236) (nx := 1) (r1 := 0) (r2 := 0) (r3 := 0) rfl rfl ?_
    refine wr_gi0 (k0 := 236) (x := h 236 8) (nx := 4) (r1 := 11) (r2 := 8) (r3 := 0) rfl rfl (by decide) rfl ⟨rfl, rfl⟩ rfl rfl ?_
    refine wi_if (cd := .ne) (nx := 7) (r1 := 28) (r2 := 0) (r3 := 0) rfl (by omega) (fun (q20 : (h 236 8) ≠ 0) => by exfalso; omega) (fun (q20 : ¬ ((h 236 8) ≠ 0)) => ?_)
    refine wi_aload_n (i := 0) (x := 236) (nx := 8) (r1 := 0) (r2 := 0) (r3 := 0) rfl rfl ?_
    refine wr_gi0 (k0 := 236) (x := h 236 6) (nx := 11) (r1 := 11) (r2 := 6) (r3 := 0) rfl rfl (by decide) rfl ⟨rfl, rfl⟩ rfl rfl ?_
    refine wi_iconst (n := 1) (nx := 12) (r1 := 0) (r2 := 0) (r3 := 0) rfl ?_
    refine wi_icmp (cd := .ne) (nx := 15) (r1 := 28) (r2 := 0) (r3 := 0) rfl (by omega) (by omega) (fun (q21 : (h 236 6) ≠ 1) => ?_) (fun (q21 : ¬ ((h 236 6) ≠ 1)) => by exfalso; omega)
    refine wi_iconst (n := 0) (nx := 29) (r1 := 0) (r2 := 0) (r3 := 0) rfl ?_
    refine wi_zreturn (nx := 30) (r1 := 0) (r2 := 0) (r3 := 0) rfl rfl (by omega) ?_
    refine wk_i ?_
    refine wi_if (cd := .eq) (nx := 61) (r1 := 102) (r2 := 0) (r3 := 0) rfl (by omega) (fun (q22 : 0 = 0) => ?_) (fun (q22 : ¬ (0 = 0)) => by exfalso; omega)
    refine wi_aload_n (i := 0) (x := 236) (nx := 103) (r1 := 0) (r2 := 0) (r3 := 0) rfl rfl ?_
    refine wi_ldc2_w (e := 2150504) (nx := 106) (r1 := 2150504) (r2 := 0) (r3 := 0) rfl (by decide) ?_
    refine wr_V (k0 := 236) (rest := []) (as := [.ref 236, vl 2150504]) (nx := 109) (r1 := 221) (r2 := 1) (r3 := 11) rfl rfl rfl (of_decide_eq_true rfl) rfl rfl (by decide) rfl rfl (of_decide_eq_true rfl) (of_decide_eq_true rfl) ?_
    refine wi_aload_n (i := 0) (x := 236) (nx := 1) (r1 := 0) (r2 := 0) (r3 := 0) rfl rfl ?_
    refine wr_gi0 (k0 := 236) (x := h 236 8) (nx := 4) (r1 := 11) (r2 := 8) (r3 := 0) rfl rfl (by decide) rfl ⟨rfl, rfl⟩ rfl rfl ?_
    refine wi_if (cd := .ne) (nx := 7) (r1 := 28) (r2 := 0) (r3 := 0) rfl (by omega) (fun (q23 : (h 236 8) ≠ 0) => by exfalso; omega) (fun (q23 : ¬ ((h 236 8) ≠ 0)) => ?_)
    refine wi_aload_n (i := 0) (x := 236) (nx := 8) (r1 := 0) (r2 := 0) (r3 := 0) rfl rfl ?_
    refine wr_gi0 (k0 := 236) (x := h 236 6) (nx := 11) (r1 := 11) (r2 := 6) (r3 := 0) rfl rfl (by decide) rfl ⟨rfl, rfl⟩ rfl rfl ?_
    refine wi_iconst (n := 1) (nx := 12) (r1 := 0) (r2 := 0) (r3 := 0) rfl ?_
    refine wi_icmp (cd := .ne) (nx := 15) (r1 := 28) (r2 := 0) (r3 := 0) rfl (by omega) (by omega) (fun (q24 : (h 236 6) ≠ 1) => ?_) (fun (q24 : ¬ ((h 236 6) ≠ 1)) => by exfalso; omega)
    refine wi_iconst (n := 0) (nx := 29) (r1 := 0) (r2 := 0) (r3 := 0) rfl ?_
    refine wi_zreturn (nx := 30) (r1 := 0) (r2 := 0) (r3 := 0) rfl rfl (by omega) ?_
    refine wk_i ?_
    refine wi_if (cd := .eq) (nx := 112) (r1 := 157) (r2 := 0) (r3 := 0) rfl (by omega) (fun (q25 : 0 = 0) => ?_) (fun (q25 : ¬ (0 = 0)) => by exfalso; omega)
    refine wi_aload_n (i := 0) (x := 236) (nx := 158) (r1 := 0) (r2 := 0) (r3 := 0) rfl rfl ?_
    refine wi_ldc2_w (e := 609992267) (nx := 161) (r1 := 609992267) (r2 := 0) (r3 := 0) rfl (by decide) ?_
    refine wr_V (k0 := 236) (rest := []) (as := [.ref 236, vl 609992267]) (nx := 164) (r1 := 221) (r2 := 1) (r3 := 11) rfl rfl rfl (of_decide_eq_true rfl) rfl rfl (by decide) rfl rfl (of_decide_eq_true rfl) (of_decide_eq_true rfl) ?_
    refine wi_aload_n (i := 0) (x := 236) (nx := 1) (r1 := 0) (r2 := 0) (r3 := 0) rfl rfl ?_
    refine wr_gi0 (k0 := 236) (x := h 236 8) (nx := 4) (r1 := 11) (r2 := 8) (r3 := 0) rfl rfl (by decide) rfl ⟨rfl, rfl⟩ rfl rfl ?_
    refine wi_if (cd := .ne) (nx := 7) (r1 := 28) (r2 := 0) (r3 := 0) rfl (by omega) (fun (q26 : (h 236 8) ≠ 0) => by exfalso; omega) (fun (q26 : ¬ ((h 236 8) ≠ 0)) => ?_)
    refine wi_aload_n (i := 0) (x := 236) (nx := 8) (r1 := 0) (r2 := 0) (r3 := 0) rfl rfl ?_
    refine wr_gi0 (k0 := 236) (x := h 236 6) (nx := 11) (r1 := 11) (r2 := 6) (r3 := 0) rfl rfl (by decide) rfl ⟨rfl, rfl⟩ rfl rfl ?_
    refine wi_iconst (n := 1) (nx := 12) (r1 := 0) (r2 := 0) (r3 := 0) rfl ?_
    refine wi_icmp (cd := .ne) (nx := 15) (r1 := 28) (r2 := 0) (r3 := 0) rfl (by omega) (by omega) (fun (q27 : (h 236 6) ≠ 1) => ?_) (fun (q27 : ¬ ((h 236 6) ≠ 1)) => by exfalso; omega)
    refine wi_iconst (n := 0) (nx := 29) (r1 := 0) (r2 := 0) (r3 := 0) rfl ?_
    refine wi_zreturn (nx := 30) (r1 := 0) (r2 := 0) (r3 := 0) rfl rfl (by omega) ?_
    refine wk_i ?_
    refine wi_if (cd := .eq) (nx := 167) (r1 := 212) (r2 := 0) (r3 := 0) rfl (by omega) (fun (q28 : 0 = 0) => ?_) (fun (q28 : ¬ (0 = 0)) => by exfalso; omega)
    refine wi_aload_n (i := 0) (x := 236) (nx := 213) (r1 := 0) (r2 := 0) (r3 := 0) rfl rfl ?_
    refine wi_ldc2_w (e := 639022) (nx := 216) (r1 := 639022) (r2 := 0) (r3 := 0) rfl (by decide) ?_
    refine wr_V (k0 := 236) (rest := []) (as := [.ref 236, vl 639022]) (nx := 219) (r1 := 221) (r2 := 1) (r3 := 11) rfl rfl rfl (of_decide_eq_true rfl) rfl rfl (by decide) rfl rfl (of_decide_eq_true rfl) (of_decide_eq_true rfl) ?_
    refine wi_aload_n (i := 0) (x := 236) (nx := 1) (r1 := 0) (r2 := 0) (r3 := 0) rfl rfl ?_
    refine wr_gi0 (k0 := 236) (x := h 236 8) (nx := 4) (r1 := 11) (r2 := 8) (r3 := 0) rfl rfl (by decide) rfl ⟨rfl, rfl⟩ rfl rfl ?_
    refine wi_if (cd := .ne) (nx := 7) (r1 := 28) (r2 := 0) (r3 := 0) rfl (by omega) (fun (q29 : (h 236 8) ≠ 0) => by exfalso; omega) (fun (q29 : ¬ ((h 236 8) ≠ 0)) => ?_)
    refine wi_aload_n (i := 0) (x := 236) (nx := 8) (r1 := 0) (r2 := 0) (r3 := 0) rfl rfl ?_
    refine wr_gi0 (k0 := 236) (x := h 236 6) (nx := 11) (r1 := 11) (r2 := 6) (r3 := 0) rfl rfl (by decide) rfl ⟨rfl, rfl⟩ rfl rfl ?_
    refine wi_iconst (n := 1) (nx := 12) (r1 := 0) (r2 := 0) (r3 := 0) rfl ?_
    refine wi_icmp (cd := .ne) (nx := 15) (r1 := 28) (r2 := 0) (r3 := 0) rfl (by omega) (by omega) (fun (q30 : (h 236 6) ≠ 1) => ?_) (fun (q30 : ¬ ((h 236 6) ≠ 1)) => by exfalso; omega)
    refine wi_iconst (n := 0) (nx := 29) (r1 := 0) (r2 := 0) (r3 := 0) rfl ?_
    refine wi_zreturn (nx := 30) (r1 := 0) (r2 := 0) (r3 := 0) rfl rfl (by omega) ?_
    refine wk_i ?_
    refine wi_if (cd := .eq) (nx := 222) (r1 := 251) (r2 := 0) (r3 := 0) rfl (by omega) (fun (q31 : 0 = 0) => ?_) (fun (q31 : ¬ (0 = 0)) => by exfalso; omega)
    refine wi_aload_n (i := 0) (x := 236) (nx := 252) (r1 := 0) (r2 := 0) (r3 := 0) rfl rfl ?_
    refine wi_iconst (n := 1) (nx := 253) (r1 := 0) (r2 := 0) (r3 := 0) rfl ?_
    refine wr_V (k0 := 236) (rest := []) (as := [.ref 236, vi 1]) (nx := 256) (r1 := 224) (r2 := 1) (r3 := 11) rfl rfl rfl (of_decide_eq_true rfl) rfl rfl (by decide) rfl rfl (of_decide_eq_true rfl) (of_decide_eq_true rfl) ?_
    refine ct_224_236 hcr  g 1 (by omega)  (fun h32 g32 u32 (p32_0 : 1 ≤ (h32 236 8)) => ?_)
    have F33 := F0.then (by decide +kernel) u32
    have b34 := gi_b (lo := 0) (hi := 5) g32 236 8 rfl
    refine wk_n ?_
    refine wi_return (nx := 257) (r1 := 0) (r2 := 0) (r3 := 0) rfl rfl ?_
    have e35 : h32 236 4 = h 236 4 := (u32 236 4 rfl)
    have e36 : h32 239 5 = h 239 5 := (u32 239 5 rfl)
    have e37 : h32 239 7 = h 239 7 := (u32 239 7 rfl)
    have e38 : h32 239 15 = h 239 15 := (u32 239 15 rfl)
    have e39 : h32 239 16 = h 239 16 := (u32 239 16 rfl)
    have e40 : h32 239 17 = h 239 17 := (u32 239 17 rfl)
    have e41 : h32 239 18 = h 239 18 := (u32 239 18 rfl)
    exact k h32 g32 F33 (show (h 236 4) ≤ (h32 236 4) by omega) (show (h32 236 4) ≤ (h 236 3) by omega) (show 1 ≤ (h32 236 8) ∨ ((h32 239 5) ≤ 9 ∧ 1 ≤ (h32 239 5) ∧ (h32 239 7) ≤ 3 ∧ (h32 239 15) ≤ 6 ∧ (h32 239 16) ≤ 6 ∧ (h32 239 17) ≤ 6 ∧ (h32 239 18) ≤ 6) by omega)
  ·
    refine wi_aload_n (i := 0) (x := 236) (nx := 16) (r1 := 0) (r2 := 0) (r3 := 0) rfl rfl ?_
    have b13 := gi_b (lo := -9223372036854775808) (hi := 9223372036854775807) g 236 12 rfl
    refine wr_gi1 (k0 := 236) (x := h 236 12) (nx := 19) (r1 := 11) (r2 := 12) (r3 := 0) rfl rfl (by decide) rfl ⟨rfl, rfl⟩ rfl rfl ?_
    refine wi_lload_n (i := 1) (e := 3650034) (nx := 20) (r1 := 0) (r2 := 0) (r3 := 0) rfl rfl ?_
    refine wi_lcmp (a := h 236 12) (e := 3650034) (nx := 21) (r1 := 0) (r2 := 0) (r3 := 0) rfl (by omega) (by omega) (fun r14 (fr14 : (r14 = -1 ∧ (h 236 12) < 3650034) ∨ (r14 = 0 ∧ (h 236 12) = 3650034) ∨ (r14 = 1 ∧ 3650034 < (h 236 12))) => ?_)
    refine wi_if (cd := .ne) (nx := 24) (r1 := 28) (r2 := 0) (r3 := 0) rfl (by omega) (fun (q15 : r14 ≠ 0) => ?_) (fun (q15 : ¬ (r14 ≠ 0)) => ?_)
    ·
      refine wi_iconst (n := 0) (nx := 29) (r1 := 0) (r2 := 0) (r3 := 0) rfl ?_
      refine wi_zreturn (nx := 30) (r1 := 0) (r2 := 0) (r3 := 0) rfl rfl (by omega) ?_
      refine wk_i ?_
      refine wi_if (cd := .eq) (nx := 10) (r1 := 17) (r2 := 0) (r3 := 0) rfl (by omega) (fun (q16 : 0 = 0) => ?_) (fun (q16 : ¬ (0 = 0)) => by exfalso; omega)
      refine wi_aload_n (i := 0) (x := 236) (nx := 18) (r1 := 0) (r2 := 0) (r3 := 0) rfl rfl ?_
      refine wi_ldc2_w (e := 394693) (nx := 21) (r1 := 394693) (r2 := 0) (r3 := 0) rfl (by decide) ?_
      refine wr_V (k0 := 236) (rest := []) (as := [.ref 236, vl 394693]) (nx := 24) (r1 := 221) (r2 := 1) (r3 := 11) rfl rfl rfl (of_decide_eq_true rfl) rfl rfl (by decide) rfl rfl (of_decide_eq_true rfl) (of_decide_eq_true rfl) ?_
      refine wi_aload_n (i := 0) (x := 236) (nx := 1) (r1 := 0) (r2 := 0) (r3 := 0) rfl rfl ?_
      refine wr_gi0 (k0 := 236) (x := h 236 8) (nx := 4) (r1 := 11) (r2 := 8) (r3 := 0) rfl rfl (by decide) rfl ⟨rfl, rfl⟩ rfl rfl ?_
      refine wi_if (cd := .ne) (nx := 7) (r1 := 28) (r2 := 0) (r3 := 0) rfl (by omega) (fun (q17 : (h 236 8) ≠ 0) => by exfalso; omega) (fun (q17 : ¬ ((h 236 8) ≠ 0)) => ?_)
      refine wi_aload_n (i := 0) (x := 236) (nx := 8) (r1 := 0) (r2 := 0) (r3 := 0) rfl rfl ?_
      refine wr_gi0 (k0 := 236) (x := h 236 6) (nx := 11) (r1 := 11) (r2 := 6) (r3 := 0) rfl rfl (by decide) rfl ⟨rfl, rfl⟩ rfl rfl ?_
      refine wi_iconst (n := 1) (nx := 12) (r1 := 0) (r2 := 0) (r3 := 0) rfl ?_
      refine wi_icmp (cd := .ne) (nx := 15) (r1 := 28) (r2 := 0) (r3 := 0) rfl (by omega) (by omega) (fun (q18 : (h 236 6) ≠ 1) => by exfalso; omega) (fun (q18 : ¬ ((h 236 6) ≠ 1)) => ?_)
      refine wi_aload_n (i := 0) (x := 236) (nx := 16) (r1 := 0) (r2 := 0) (r3 := 0) rfl rfl ?_
      refine wr_gi1 (k0 := 236) (x := h 236 12) (nx := 19) (r1 := 11) (r2 := 12) (r3 := 0) rfl rfl (by decide) rfl ⟨rfl, rfl⟩ rfl rfl ?_
      refine wi_lload_n (i := 1) (e := 394693) (nx := 20) (r1 := 0) (r2 := 0) (r3 := 0) rfl rfl ?_
      refine wi_lcmp (a := h 236 12) (e := 394693) (nx := 21) (r1 := 0) (r2 := 0) (r3 := 0) rfl (by omega) (by omega) (fun r19 (fr19 : (r19 = -1 ∧ (h 236 12) < 394693) ∨ (r19 = 0 ∧ (h 236 12) = 394693) ∨ (r19 = 1 ∧ 394693 < (h 236 12))) => ?_)
      refine wi_if (cd := .ne) (nx := 24) (r1 := 28) (r2 := 0) (r3 := 0) rfl (by omega) (fun (q20 : r19 ≠ 0) => ?_) (fun (q20 : ¬ (r19 ≠ 0)) => ?_)
      ·
        refine wi_iconst (n := 0) (nx := 29) (r1 := 0) (r2 := 0) (r3 := 0) rfl ?_
        refine wi_zreturn (nx := 30) (r1 := 0) (r2 := 0) (r3 := 0) rfl rfl (by omega) ?_
        refine wk_i ?_
        refine wi_if (cd := .eq) (nx := 27) (r1 := 34) (r2 := 0) (r3 := 0) rfl (by omega) (fun (q21 : 0 = 0) => ?_) (fun (q21 : ¬ (0 = 0)) => by exfalso; omega)
        refine wi_aload_n (i := 0) (x := 236) (nx := 35) (r1 := 0) (r2 := 0) (r3 := 0) rfl rfl ?_
        refine wi_ldc2_w (e := 3122) (nx := 38) (r1 := 3122) (r2 := 0) (r3 := 0) rfl (by decide) ?_
        refine wr_V (k0 := 236) (rest := []) (as := [.ref 236, vl 3122]) (nx := 41) (r1 := 221) (r2 := 1) (r3 := 11) rfl rfl rfl (of_decide_eq_true rfl) rfl rfl (by decide) rfl rfl (of_decide_eq_true rfl) (of_decide_eq_true rfl) ?_
        refine wi_aload_n (i := 0) (x := 236) (nx := 1) (r1 := 0) (r2 := 0) (r3 := 0) rfl rfl ?_
        refine wr_gi0 (k0 := 236) (x := h 236 8) (nx := 4) (r1 := 11) (r2 := 8) (r3 := 0) rfl rfl (by decide) rfl ⟨rfl, rfl⟩ rfl rfl ?_
        refine wi_if (cd := .ne) (nx := 7) (r1 := 28) (r2 := 0) (r3 := 0) rfl (by omega) (fun (q22 : (h 236 8) ≠ 0) => by exfalso; omega) (fun (q22 : ¬ ((h 236 8) ≠ 0)) => ?_)
        refine wi_aload_n (i := 0) (x := 236) (nx := 8) (r1 := 0) (r2 := 0) (r3 := 0) rfl rfl ?_
        refine wr_gi0 (k0 := 236) (x := h 236 6) (nx := 11) (r1 := 11) (r2 := 6) (r3 := 0) rfl rfl (by decide) rfl ⟨rfl, rfl⟩ rfl rfl ?_
        refine wi_iconst (n := 1) (nx := 12) (r1 := 0) (r2 := 0) (r3 := 0) rfl ?_
        refine wi_icmp (cd := .ne) (nx := 15) (r1 := 28) (r2 := 0) (r3 := 0) rfl (by omega) (by omega) (fun (q23 : (h 236 6) ≠ 1) => by exfalso; omega) (fun (q23 : ¬ ((h 236 6) ≠ 1)) => ?_)
        refine wi_aload_n (i := 0) (x := 236) (nx := 16) (r1 := 0) (r2 := 0) (r3 := 0) rfl rfl ?_
        refine wr_gi1 (k0 := 236) (x := h 236 12) (nx := 19) (r1 := 11) (r2 := 12) (r3 := 0) rfl rfl (by decide) rfl ⟨rfl, rfl⟩ rfl rfl ?_
        refine wi_lload_n (i := 1) (e := 3122) (nx := 20) (r1 := 0) (r2 := 0) (r3 := 0) rfl rfl ?_
        refine wi_lcmp (a := h 236 12) (e := 3122) (nx := 21) (r1 := 0) (r2 := 0) (r3 := 0) rfl (by omega) (by omega) (fun r24 (fr24 : (r24 = -1 ∧ (h 236 12) < 3122) ∨ (r24 = 0 ∧ (h 236 12) = 3122) ∨ (r24 = 1 ∧ 3122 < (h 236 12))) => ?_)
        refine wi_if (cd := .ne) (nx := 24) (r1 := 28) (r2 := 0) (r3 := 0) rfl (by omega) (fun (q25 : r24 ≠ 0) => ?_) (fun (q25 : ¬ (r24 ≠ 0)) => ?_)
        ·
          refine wi_iconst (n := 0) (nx := 29) (r1 := 0) (r2 := 0) (r3 := 0) rfl ?_
          refine wi_zreturn (nx := 30) (r1 := 0) (r2 := 0) (r3 := 0) rfl rfl (by omega) ?_
          refine wk_i ?_
          refine wi_if (cd := .eq) (nx := 44) (r1 := 51) (r2 := 0) (r3 := 0) rfl (by omega) (fun (q26 : 0 = 0) => ?_) (fun (q26 : ¬ (0 = 0)) => by exfalso; omega)
          refine wi_aload_n (i := 0) (x := 236) (nx := 52) (r1 := 0) (r2 := 0) (r3 := 0) rfl rfl ?_
          refine wi_ldc2_w (e := 781652471) (nx := 55) (r1 := 781652471) (r2 := 0) (r3 := 0) rfl (by decide) ?_
          refine wr_V (k0 := 236) (rest := []) (as := [.ref 236, vl 781652471]) (nx := 58) (r1 := 221) (r2 := 1) (r3 := 11) rfl rfl rfl (of_decide_eq_true rfl) rfl rfl (by decide) rfl rfl (of_decide_eq_true rfl) (of_decide_eq_true rfl) ?_
          refine wi_aload_n (i := 0) (x := 236) (nx := 1) (r1 := 0) (r2 := 0) (r3 := 0) rfl rfl ?_
          refine wr_gi0 (k0 := 236) (x := h 236 8) (nx := 4) (r1 := 11) (r2 := 8) (r3 := 0) rfl rfl (by decide) rfl ⟨rfl, rfl⟩ rfl rfl ?_
          refine wi_if (cd := .ne) (nx := 7) (r1 := 28) (r2 := 0) (r3 := 0) rfl (by omega) (fun (q27 : (h 236 8) ≠ 0) => by exfalso; omega) (fun (q27 : ¬ ((h 236 8) ≠ 0)) => ?_)
          refine wi_aload_n (i := 0) (x := 236) (nx := 8) (r1 := 0) (r2 := 0) (r3 := 0) rfl rfl ?_
          refine wr_gi0 (k0 := 236) (x := h 236 6) (nx := 11) (r1 := 11) (r2 := 6) (r3 := 0) rfl rfl (by decide) rfl ⟨rfl, rfl⟩ rfl rfl ?_
          refine wi_iconst (n := 1) (nx := 12) (r1 := 0) (r2 := 0) (r3 := 0) rfl ?_
          refine wi_icmp (cd := .ne) (nx := 15) (r1 := 28) (r2 := 0) (r3 := 0) rfl (by omega) (by omega) (fun (q28 : (h 236 6) ≠ 1) => by exfalso; omega) (fun (q28 : ¬ ((h 236 6) ≠ 1)) => ?_)
          refine wi_aload_n (i := 0) (x := 236) (nx := 16) (r1 := 0) (r2 := 0) (r3 := 0) rfl rfl ?_
          refine wr_gi1 (k0 := 236) (x := h 236 12) (nx := 19) (r1 := 11) (r2 := 12) (r3 := 0) rfl rfl (by decide) rfl ⟨rfl, rfl⟩ rfl rfl ?_
          refine wi_lload_n (i := 1) (e := 781652471) (nx := 20) (r1 := 0) (r2 := 0) (r3 := 0) rfl rfl ?_
          refine wi_lcmp (a := h 236 12) (e := 781652471) (nx := 21) (r1 := 0) (r2 := 0) (r3 := 0) rfl (by omega) (by omega) (fun r29 (fr29 : (r29 = -1 ∧ (h 236 12) < 781652471) ∨ (r29 = 0 ∧ (h 236 12) = 781652471) ∨ (r29 = 1 ∧ 781652471 < (h 236 12))) => ?_)
          refine wi_if (cd := .ne) (nx := 24) (r1 := 28) (r2 := 0) (r3 := 0) rfl (by omega) (fun (q30 : r29 ≠ 0) => ?_) (fun (q30 : ¬ (r29 ≠ 0)) => ?_)
          ·
            refine wi_iconst (n := 0) (nx := 29) (r1 := 0) (r2 := 0) (r3 := 0) rfl ?_
            refine wi_zreturn (nx := 30) (r1 := 0) (r2 := 0) (r3 := 0) rfl rfl (by omega) ?_
            refine wk_i ?_
            refine wi_if (cd := .eq) (nx := 61) (r1 := 102) (r2 := 0) (r3 := 0) rfl (by omega) (fun (q31 : 0 = 0) => ?_) (fun (q31 : ¬ (0 = 0)) => by exfalso; omega)
            refine wi_aload_n (i := 0) (x := 236) (nx := 103) (r1 := 0) (r2 := 0) (r3 := 0) rfl rfl ?_
            refine wi_ldc2_w (e := 2150504) (nx := 106) (r1 := 2150504) (r2 := 0) (r3 := 0) rfl (by decide) ?_
            refine wr_V (k0 := 236) (rest := []) (as := [.ref 236, vl 2150504]) (nx := 109) (r1 := 221) (r2 := 1) (r3 := 11) rfl rfl rfl (of_decide_eq_true rfl) rfl rfl (by decide) rfl rfl (of_decide_eq_true rfl) (of_decide_eq_true rfl) ?_
            refine wi_aload_n (i := 0) (x := 236) (nx := 1) (r1 := 0) (r2 := 0) (r3 := 0) rfl rfl ?_
            refine wr_gi0 (k0 := 236) (x := h 236 8) (nx := 4) (r1 := 11) (r2 := 8) (r3 := 0) rfl rfl (by decide) rfl ⟨rfl, rfl⟩ rfl rfl ?_
            refine wi_if (cd := .ne) (nx := 7) (r1 := 28) (r2 := 0) (r3 := 0) rfl (by omega) (fun (q32 : (h 236 8) ≠ 0) => by exfalso; omega) (fun (q32 : ¬ ((h 236 8) ≠ 0)) => ?_)
            refine wi_aload_n (i := 0) (x := 236) (nx := 8) (r1 := 0) (r2 := 0) (r3 := 0) rfl rfl ?_
            refine wr_gi0 (k0 := 236) (x := h 236 6) (nx := 11) (r1 := 11) (r2 := 6) (r3 := 0) rfl rfl (by decide) rfl ⟨rfl, rfl⟩ rfl rfl ?_
            refine wi_iconst (n := 1) (nx := 12) (r1 := 0) (r2 := 0) (r3 := 0) rfl ?_
            refine wi_icmp (cd := .ne) (nx := 15) (r1 := 28) (r2 := 0) (r3 := 0) rfl (by omega) (by omega) (fun (q33 : (h 236 6) ≠ 1) => by exfalso; omega) (fun (q33 : ¬ ((h 236 6) ≠ 1)) => ?_)
            refine wi_aload_n (i := 0) (x := 236) (nx := 16) (r1 := 0) (r2 := 0) (r3 := 0) rfl rfl ?_
            refine wr_gi1 (k0 := 236) (x := h 236 12) (nx := 19) (r1 := 11) (r2 := 12) (r3 := 0) rfl rfl (by decide) rfl ⟨rfl, rfl⟩ rfl rfl ?_
            refine wi_lload_n (i := 1) (e := 2150504) (nx := 20) (r1 := 0) (r2 := 0) (r3 := 0) rfl rfl ?_
            refine wi_lcmp (a := h 236 12) (e := 2150504) (nx := 21) (r1 := 0) (r2 := 0) (r3 := 0) rfl (by omega) (by omega) (fun r34 (fr34 : (r34 = -1 ∧ (h 236 12) < 2150504) ∨ (r34 = 0 ∧ (h 236 12) = 2150504) ∨ (r34 = 1 ∧ 2150504 < (h 236 12))) => ?_)
            refine wi_if (cd := .ne) (nx := 24) (r1 := 28) (r2 := 0) (r3 := 0) rfl (by omega) (fun (q35 : r34 ≠ 0) => ?_) (fun (q35 : ¬ (r34 ≠ 0)) => ?_)
            ·
              refine wi_iconst (n := 0) (nx := 29) (r1 := 0) (r2 := 0) (r3 := 0) rfl ?_
              refine wi_zreturn (nx := 30) (r1 := 0) (r2 := 0) (r3 := 0) rfl rfl (by omega) ?_
              refine wk_i ?_
              refine wi_if (cd := .eq) (nx := 112) (r1 := 157) (r2 := 0) (r3 := 0) rfl (by omega) (fun (q36 : 0 = 0) => ?_) (fun (q36 : ¬ (0 = 0)) => by exfalso; omega)
              refine wi_aload_n (i := 0) (x := 236) (nx := 158) (r1 := 0) (r2 := 0) (r3 := 0) rfl rfl ?_
              refine wi_ldc2_w (e := 609992267) (nx := 161) (r1 := 609992267) (r2 := 0) (r3 := 0) rfl (by decide) ?_
              refine wr_V (k0 := 236) (rest := []) (as := [.ref 236, vl 609992267]) (nx := 164) (r1 := 221) (r2 := 1) (r3 := 11) rfl rfl rfl (of_decide_eq_true rfl) rfl rfl (by decide) rfl rfl (of_decide_eq_true rfl) (of_decide_eq_true rfl) ?_
              refine wi_aload_n (i := 0) (x := 236) (nx := 1) (r1 := 0) (r2 := 0) (r3 := 0) rfl rfl ?_
              refine wr_gi0 (k0 := 236) (x := h 236 8) (nx := 4) (r1 := 11) (r2 := 8) (r3 := 0) rfl rfl (by decide) rfl ⟨rfl, rfl⟩ rfl rfl ?_
              refine wi_if (cd := .ne) (nx := 7) (r1 := 28) (r2 := 0) (r3 := 0) rfl (by omega) (fun (q37 : (h 236 8) ≠ 0) => by exfalso; omega) (fun (q37 : ¬ ((h 236 8) ≠ 0)) => ?_)
              refine wi_aload_n (i := 0) (x := 236) (nx := 8) (r1 := 0) (r2 := 0) (r3 := 0) rfl rfl ?_
              refine wr_gi0 (k0 := 236) (x := h 236 6) (nx := 11) (r1 := 11) (r2 := 6) (r3 := 0) rfl rfl (by decide) rfl ⟨rfl, rfl⟩ rfl rfl ?_
              refine wi_iconst (n := 1) (nx := 12) (r1 := 0) (r2 := 0) (r3 := 0) rfl ?_
              refine wi_icmp (cd := .ne) (nx := 15) (r1 := 28) (r2 := 0) (r3 := 0) rfl (by omega) (by omega) (fun (q38 : (h 236 6) ≠ 1) => by exfalso; omega) (fun (q38 : ¬ ((h 236 6) ≠ 1)) => ?_)
              refine wi_aload_n (i := 0) (x := 236) (nx := 16) (r1 := 0) (r2 := 0) (r3 := 0) rfl rfl ?_
              refine wr_gi1 (k0 := 236) (x := h 236 12) (nx := 19) (r1 := 11) (r2 := 12) (r3 := 0) rfl rfl (by decide) rfl ⟨rfl, rfl⟩ rfl rfl ?_
              refine wi_lload_n (i := 1) (e := 609992267) (nx := 20) (r1 := 0) (r2 := 0) (r3 := 0) rfl rfl ?_
              refine wi_lcmp (a := h 236 12) (e := 609992267) (nx := 21) (r1 := 0) (r2 := 0) (r3 := 0) rfl (by omega) (by omega) (fun r39 (fr39 : (r39 = -1 ∧ (h 236 12) < 609992267) ∨ (r39 = 0 ∧ (h 236 12) = 609992267) ∨ (r39 = 1 ∧ 609992267 < (h 236 12))) => ?_)
              refine wi_if (cd := .ne) (nx := 24) (r1 := 28) (r2 := 0) (r3 := 0) rfl (by omega) (fun (q40 : r39 ≠ 0) => ?_) (fun (q40 : ¬ (r39 ≠ 0)) => ?_)
              ·
                refine wi_iconst (n := 0) (nx := 29) (r1 := 0) (r2 := 0) (r3 := 0) rfl ?_
                refine wi_zreturn (nx := 30) (r1 := 0) (r2 := 0) (r3 := 0) rfl rfl (by omega) ?_
                refine wk_i ?_
                refine wi_if (cd := .eq) (nx := 167) (r1 := 212) (r2 := 0) (r3 := 0) rfl (by omega) (fun (q41 : 0 = 0) => ?_) (fun (q41 : ¬ (0 = 0)) => by exfalso; omega)
                refine wi_aload_n (i := 0) (x := 236) (nx := 213) (r1 := 0) (r2 := 0) (r3 := 0) rfl rfl ?_
                refine wi_ldc2_w (e := 639022) (nx := 216) (r1 := 639022) (r2 := 0) (r3 := 0) rfl (by decide) ?_
                refine wr_V (k0 := 236) (rest := []) (as := [.ref 236, vl 639022]) (nx := 219) (r1 := 221) (r2 := 1) (r3 := 11) rfl rfl rfl (of_decide_eq_true rfl) rfl rfl (by decide) rfl rfl (of_decide_eq_true rfl) (of_decide_eq_true rfl) ?_
                refine wi_aload_n (i := 0) (x := 236) (nx := 1) (r1 := 0) (r2 := 0) (r3 := 0) rfl rfl ?_
                refine wr_gi0 (k0 := 236) (x := h 236 8) (nx := 4) (r1 := 11) (r2 := 8) (r3 := 0) rfl rfl (by decide) rfl ⟨rfl, rfl⟩ rfl rfl ?_
                refine wi_if (cd := .ne) (nx := 7) (r1 := 28) (r2 := 0) (r3 := 0) rfl (by omega) (fun (q42 : (h 236 8) ≠ 0) => by exfalso; omega) (fun (q42 : ¬ ((h 236 8) ≠ 0)) => ?_)
                refine wi_aload_n (i := 0) (x := 236) (nx := 8) (r1 := 0) (r2 := 0) (r3 := 0) rfl rfl ?_
                refine wr_gi0 (k0 := 236) (x := h 236 6) (nx := 11) (r1 := 11) (r2 := 6) (r3 := 0) rfl rfl (by decide) rfl ⟨rfl, rfl⟩ rfl rfl ?_
                refine wi_iconst (n := 1) (nx := 12) (r1 := 0) (r2 := 0) (r3 := 0) rfl ?_
                refine wi_icmp (cd := .ne) (nx := 15) (r1 := 28) (r2 := 0) (r3 := 0) rfl (by omega) (by omega) (fun (q43 : (h 236 6) ≠ 1) => by exfalso; omega) (fun (q43 : ¬ ((h 236 6) ≠ 1)) => ?_)
                refine wi_aload_n (i := 0) (x := 236) (nx := 16) (r1 := 0) (r2 := 0) (r3 := 0) rfl rfl ?_
                refine wr_gi1 (k0 := 236) (x := h 236 12) (nx := 19) (r1 := 11) (r2 := 12) (r3 := 0) rfl rfl (by decide) rfl ⟨rfl, rfl⟩ rfl rfl ?_
                refine wi_lload_n (i := 1) (e := 639022) (nx := 20) (r1 := 0) (r2 := 0) (r3 := 0) rfl rfl ?_
                refine wi_lcmp (a := h 236 12) (e := 639022) (nx := 21) (r1 := 0) (r2 := 0) (r3 := 0) rfl (by omega) (by omega) (fun r44 (fr44 : (r44 = -1 ∧ (h 236 12) < 639022) ∨ (r44 = 0 ∧ (h 236 12) = 639022) ∨ (r44 = 1 ∧ 639022 < (h 236 12))) => ?_)
                refine wi_if (cd := .ne) (nx := 24) (r1 := 28) (r2 := 0) (r3 := 0) rfl (by omega) (fun (q45 : r44 ≠ 0) => ?_) (fun (q45 : ¬ (r44 ≠ 0)) => ?_)
                ·
                  refine wi_iconst (n := 0) (nx := 29) (r1 := 0) (r2 := 0) (r3 := 0) rfl ?_
                  refine wi_zreturn (nx := 30) (r1 := 0) (r2 := 0) (r3 := 0) rfl rfl (by omega) ?_
                  refine wk_i ?_
                  refine wi_if (cd := .eq) (nx := 222) (r1 := 251) (r2 := 0) (r3 := 0) rfl (by omega) (fun (q46 : 0 = 0) => ?_) (fun (q46 : ¬ (0 = 0)) => by exfalso; omega)
                  refine wi_aload_n (i := 0) (x := 236) (nx := 252) (r1 := 0) (r2 := 0) (r3 := 0) rfl rfl ?_
                  refine wi_iconst (n := 1) (nx := 253) (r1 := 0) (r2 := 0) (r3 := 0) rfl ?_
                  refine wr_V (k0 := 236) (rest := []) (as := [.ref 236, vi 1]) (nx := 256) (r1 := 224) (r2 := 1) (r3 := 11) rfl rfl rfl (of_decide_eq_true rfl) rfl rfl (by decide) rfl rfl (of_decide_eq_true rfl) (of_decide_eq_true rfl) ?_
                  refine ct_224_236 hcr  g 1 (by omega)  (fun h47 g47 u47 (p47_0 : 1 ≤ (h47 236 8)) => ?_)
                  have F48 := F0.then (by decide +kernel) u47
                  have b49 := gi_b (lo := 0) (hi := 5) g47 236 8 rfl
                  refine wk_n ?_
                  refine wi_return (nx := 257) (r1 := 0) (r2 := 0) (r3 := 0) rfl rfl ?_
                  have e50 : h47 236 4 = h 236 4 := (u47 236 4 rfl)
                  have e51 : h47 239 5 = h 239 5 := (u47 239 5 rfl)
                  have e52 : h47 239 7 = h 239 7 := (u47 239 7 rfl)
                  have e53 : h47 239 15 = h 239 15 := (u47 239 15 rfl)
                  have e54 : h47 239 16 = h 239 16 := (u47 239 16 rfl)
                  have e55 : h47 239 17 = h 239 17 := (u47 239 17 rfl)
                  have e56 : h47 239 18 = h 239 18 := (u47 239 18 rfl)
                  exact k h47 g47 F48 (show (h 236 4) ≤ (h47 236 4) by omega) (show (h47 236 4) ≤ (h 236 3) by omega) (show 1 ≤ (h47 236 8) ∨ ((h47 239 5) ≤ 9 ∧ 1 ≤ (h47 239 5) ∧ (h47 239 7) ≤ 3 ∧ (h47 239 15) ≤ 6 ∧ (h47 239 16) ≤ 6 ∧ (h47 239 17) ≤ 6 ∧ (h47 239 18) ≤ 6) by omega)
                ·
                  refine wi_iconst (n := 1) (nx := 25) (r1 := 0) (r2 := 0) (r3 := 0) rfl ?_
                  refine wi_goto (nx := 28) (r1 := 29) (r2 := 0) (r3 := 0) rfl ?_
                  refine wi_zreturn (nx := 30) (r1 := 0) (r2 := 0) (r3 := 0) rfl rfl (by omega) ?_
                  refine wk_i ?_
                  refine wi_if (cd := .eq) (nx := 222) (r1 := 251) (r2 := 0) (r3 := 0) rfl (by omega) (fun (q46 : 1 = 0) => by exfalso; omega) (fun (q46 : ¬ (1 = 0)) => ?_)
                  refine wi_aload_n (i := 0) (x := 236) (nx := 223) (r1 := 0) (r2 := 0) (r3 := 0) rfl rfl ?_
                  refine wi_aload_n (i := 0) (x := 236) (nx := 224) (r1 := 0) (r2 := 0) (r3 := 0) rfl rfl ?_
                  refine wi_aload_n (i := 0) (x := 236) (nx := 225) (r1 := 0) (r2 := 0) (r3 := 0) rfl rfl ?_
                  have b47 := gi_b (lo := 0) (hi := 1) g 236 26 rfl
                  refine wr_gi2 (k0 := 236) (x := h 236 26) (nx := 228) (r1 := 11) (r2 := 26) (r3 := 0) rfl rfl (by decide) rfl ⟨rfl, rfl⟩ rfl rfl ?_
                  refine wr_V (k0 := 236) (rest := [.ref 236]) (as := [.ref 236, vi (h 236 26)]) (nx := 231) (r1 := 234) (r2 := 1) (r3 := 11) rfl rfl rfl (of_decide_eq_true rfl) rfl rfl (by decide) rfl rfl (of_decide_eq_true rfl) (of_decide_eq_true rfl) ?_
                  refine ct_234_236 hcr  g (h 236 26) (by omega) (show (h 236 4) ≤ (h 236 3) by omega) (fun h48 z49 g48 u48 (fz49 : 1 ≤ z49 ∧ z49 ≤ 1) (p48_0 : (h 236 4) ≤ (h48 236 4)) (p48_1 : (h48 236 4) ≤ (h 236 3)) (p48_2 : 1 ≤ (h48 236 8) ∨ (h 236 8) = 0) => ?_)
                  have F50 := F0.then (by decide +kernel) u48
                  have b51 := gi_b (lo := 0) (hi := 800) g48 236 4 rfl
                  have b52 := gi_b (lo := 0) (hi := 5) g48 236 8 rfl
                  refine wk_i ?_
                  refine wr_pf2 (k0 := 236) (x := z49) (bl := 0) (bh := 1) (nx := 234) (r1 := 11) (r2 := 26) (r3 := 2) rfl (by decide) rfl ⟨rfl, rfl⟩ rfl (by omega) rfl g48 rfl (by omega) (fun h53 g53 w53 u53 => ?_)
                  have F54 := F50.then rfl u53
                  refine wi_aload_n (i := 0) (x := 236) (nx := 235) (r1 := 0) (r2 := 0) (r3 := 0) rfl rfl ?_
                  refine wr_gr (k0 := 236) (x := 239) (nx := 238) (r1 := 11) (r2 := 14) (r3 := 0) rfl rfl (by decide) rfl ⟨rfl, rfl⟩ rfl ?_
                  refine wi_bipush (n := 9) (nx := 240) (r1 := 0) (r2 := 0) (r3 := 0) rfl (by decide) ?_
                  refine wi_aload_n (i := 0) (x := 236) (nx := 241) (r1 := 0) (r2 := 0) (r3 := 0) rfl rfl ?_
                  refine wi_iconst (n := 0) (nx := 242) (r1 := 0) (r2 := 0) (r3 := 0) rfl ?_
                  refine wi_bipush (n := 11) (nx := 244) (r1 := 0) (r2 := 0) (r3 := 0) rfl (by decide) ?_
                  refine wr_V (k0 := 236) (rest := [vi 9, .ref 239]) (as := [.ref 236, vi 0, vi 11]) (nx := 247) (r1 := 231) (r2 := 2) (r3 := 11) rfl rfl rfl (of_decide_eq_true rfl) rfl rfl (by decide) rfl rfl (of_decide_eq_true rfl) (of_decide_eq_true rfl) ?_
                  have e56 : h53 236 4 = h48 236 4 := (u53 236 4 rfl)
                  have e57 : h53 236 3 = h 236 3 := ((u53 236 3 rfl).trans (u48 236 3 rfl))
                  refine ct_231_236 hcr  g53 0 11 (by omega) (by omega) (show (h53 236 4) ≤ (h53 236 3) by omega) (fun h55 z58 g55 u55 (fz58 : 0 ≤ z58 ∧ z58 ≤ 999) (p55_0 : (h53 236 4) ≤ (h55 236 4)) (p55_1 : (h55 236 4) ≤ (h53 236 3)) (p55_2 : 1 ≤ (h55 236 8) ∨ (h53 236 8) = 0) (p55_3 : 1 ≤ (h55 236 8) ∨ (0 ≤ z58 ∧ z58 ≤ 11)) => ?_)
                  have F59 := F54.then (by decide +kernel) u55
                  have b60 := gi_b (lo := 0) (hi := 800) g55 236 4 rfl
                  have b61 := gi_b (lo := 0) (hi := 5) g55 236 8 rfl
                  refine wk_i ?_
                  refine wr_is (k0 := 239) (a := 9) (f := 9) (x := z58) (bl := 0) (bh := 999) (nx := 248) (r1 := 0) (r2 := 0) (r3 := 0) rfl (by decide) rfl (by omega) (by omega) (by decide) g55 rfl (by omega) (fun h62 g62 w62 u62 => ?_)
                  have F63 := F59.then rfl u62
                  refine wi_goto (nx := 251) (r1 := 256) (r2 := 0) (r3 := 0) rfl ?_
                  refine wi_return (nx := 257) (r1 := 0) (r2 := 0) (r3 := 0) rfl rfl ?_
                  have e64 : h62 236 4 = h55 236 4 := (u62 236 4 rfl)
                  have e65 : h62 236 8 = h55 236 8 := (u62 236 8 rfl)
                  have e66 : h62 239 5 = h 239 5 := ((u62 239 5 rfl).trans ((u55 239 5 rfl).trans ((u53 239 5 rfl).trans (u48 239 5 rfl))))
                  have e67 : h62 239 7 = h 239 7 := ((u62 239 7 rfl).trans ((u55 239 7 rfl).trans ((u53 239 7 rfl).trans (u48 239 7 rfl))))
                  have e68 : h62 239 15 = h 239 15 := ((u62 239 15 rfl).trans ((u55 239 15 rfl).trans ((u53 239 15 rfl).trans (u48 239 15 rfl))))
                  have e69 : h62 239 16 = h 239 16 := ((u62 239 16 rfl).trans ((u55 239 16 rfl).trans ((u53 239 16 rfl).trans (u48 239 16 rfl))))
                  have e70 : h62 239 17 = h 239 17 := ((u62 239 17 rfl).trans ((u55 239 17 rfl).trans ((u53 239 17 rfl).trans (u48 239 17 rfl))))
                  have e71 : h62 239 18 = h 239 18 := ((u62 239 18 rfl).trans ((u55 239 18 rfl).trans ((u53 239 18 rfl).trans (u48 239 18 rfl))))
                  exact k h62 g62 F63 (show (h 236 4) ≤ (h62 236 4) by omega) (show (h62 236 4) ≤ (h 236 3) by omega) (show 1 ≤ (h62 236 8) ∨ ((h62 239 5) ≤ 9 ∧ 1 ≤ (h62 239 5) ∧ (h62 239 7) ≤ 3 ∧ (h62 239 15) ≤ 6 ∧ (h62 239 16) ≤ 6 ∧ (h62 239 17) ≤ 6 ∧ (h62 239 18) ≤ 6) by omega)
              ·
                refine wi_iconst (n := 1) (nx := 25) (r1 := 0) (r2 := 0) (r3 := 0) rfl ?_
                refine wi_goto (nx := 28) (r1 := 29) (r2 := 0) (r3 := 0) rfl ?_
                refine wi_zreturn (nx := 30) (r1 := 0) (r2 := 0) (r3 := 0) rfl rfl (by omega) ?_
                refine wk_i ?_
                refine wi_if (cd := .eq) (nx := 167) (r1 := 212) (r2 := 0) (r3 := 0) rfl (by omega) (fun (q41 : 1 = 0) => by exfalso; omega) (fun (q41 : ¬ (1 = 0)) => ?_)
                refine wi_aload_n (i := 0) (x := 236) (nx := 168) (r1 := 0) (r2 := 0) (r3 := 0) rfl rfl ?_
                refine wi_aload_n (i := 0) (x := 236) (nx := 169) (r1 := 0) (r2 := 0) (r3 := 0) rfl rfl ?_
                refine wi_aload_n (i := 0) (x := 236) (nx := 170) (r1 := 0) (r2 := 0) (r3 := 0) rfl rfl ?_
                have b42 := gi_b (lo := 0) (hi := 1) g 236 25 rfl
                refine wr_gi2 (k0 := 236) (x := h 236 25) (nx := 173) (r1 := 11) (r2 := 25) (r3 := 0) rfl rfl (by decide) rfl ⟨rfl, rfl⟩ rfl rfl ?_
                refine wr_V (k0 := 236) (rest := [.ref 236]) (as := [.ref 236, vi (h 236 25)]) (nx := 176) (r1 := 234) (r2 := 1) (r3 := 11) rfl rfl rfl (of_decide_eq_true rfl) rfl rfl (by decide) rfl rfl (of_decide_eq_true rfl) (of_decide_eq_true rfl) ?_
                refine ct_234_236 hcr  g (h 236 25) (by omega) (show (h 236 4) ≤ (h 236 3) by omega) (fun h43 z44 g43 u43 (fz44 : 1 ≤ z44 ∧ z44 ≤ 1) (p43_0 : (h 236 4) ≤ (h43 236 4)) (p43_1 : (h43 236 4) ≤ (h 236 3)) (p43_2 : 1 ≤ (h43 236 8) ∨ (h 236 8) = 0) => ?_)
                have F45 := F0.then (by decide +kernel) u43
                have b46 := gi_b (lo := 0) (hi := 800) g43 236 4 rfl
                have b47 := gi_b (lo := 0) (hi := 5) g43 236 8 rfl
                refine wk_i ?_
                refine wr_pf2 (k0 := 236) (x := z44) (bl := 0) (bh := 1) (nx := 179) (r1 := 11) (r2 := 25) (r3 := 2) rfl (by decide) rfl ⟨rfl, rfl⟩ rfl (by omega) rfl g43 rfl (by omega) (fun h48 g48 w48 u48 => ?_)
                have F49 := F45.then rfl u48
                refine wi_aload_n (i := 0) (x := 236) (nx := 180) (r1 := 0) (r2 := 0) (r3 := 0) rfl rfl ?_
                refine wr_gr (k0 := 236) (x := 239) (nx := 183) (r1 := 11) (r2 := 14) (r3 := 0) rfl rfl (by decide) rfl ⟨rfl, rfl⟩ rfl ?_
                refine wi_bipush (n := 7) (nx := 185) (r1 := 0) (r2 := 0) (r3 := 0) rfl (by decide) ?_
                refine wi_aload_n (i := 0) (x := 236) (nx := 186) (r1 := 0) (r2 := 0) (r3 := 0) rfl rfl ?_
                refine wi_iconst (n := 0) (nx := 187) (r1 := 0) (r2 := 0) (r3 := 0) rfl ?_
                refine wi_iconst (n := 3) (nx := 188) (r1 := 0) (r2 := 0) (r3 := 0) rfl ?_
                refine wr_V (k0 := 236) (rest := [vi 7, .ref 239]) (as := [.ref 236, vi 0, vi 3]) (nx := 191) (r1 := 231) (r2 := 2) (r3 := 11) rfl rfl rfl (of_decide_eq_true rfl) rfl rfl (by decide) rfl rfl (of_decide_eq_true rfl) (of_decide_eq_true rfl) ?_
                have e51 : h48 236 4 = h43 236 4 := (u48 236 4 rfl)
                have e52 : h48 236 3 = h 236 3 := ((u48 236 3 rfl).trans (u43 236 3 rfl))
                refine ct_231_236 hcr  g48 0 3 (by omega) (by omega) (show (h48 236 4) ≤ (h48 236 3) by omega) (fun h50 z53 g50 u50 (fz53 : 0 ≤ z53 ∧ z53 ≤ 999) (p50_0 : (h48 236 4) ≤ (h50 236 4)) (p50_1 : (h50 236 4) ≤ (h48 236 3)) (p50_2 : 1 ≤ (h50 236 8) ∨ (h48 236 8) = 0) (p50_3 : 1 ≤ (h50 236 8) ∨ (0 ≤ z53 ∧ z53 ≤ 3)) => ?_)
                have F54 := F49.then (by decide +kernel) u50
                have b55 := gi_b (lo := 0) (hi := 800) g50 236 4 rfl
                have b56 := gi_b (lo := 0) (hi := 5) g50 236 8 rfl
                refine wk_i ?_
                refine wr_is (k0 := 239) (a := 7) (f := 7) (x := z53) (bl := 0) (bh := 999) (nx := 192) (r1 := 0) (r2 := 0) (r3 := 0) rfl (by decide) rfl (by omega) (by omega) (by decide) g50 rfl (by omega) (fun h57 g57 w57 u57 => ?_)
                have F58 := F54.then rfl u57
                refine wi_aload_n (i := 0) (x := 236) (nx := 193) (r1 := 0) (r2 := 0) (r3 := 0) rfl rfl ?_
                refine wr_gr (k0 := 236) (x := 239) (nx := 196) (r1 := 11) (r2 := 14) (r3 := 0) rfl rfl (by decide) rfl ⟨rfl, rfl⟩ rfl ?_
                refine wi_bipush (n := 8) (nx := 198) (r1 := 0) (r2 := 0) (r3 := 0) rfl (by decide) ?_
                refine wi_aload_n (i := 0) (x := 236) (nx := 199) (r1 := 0) (r2 := 0) (r3 := 0) rfl rfl ?_
                refine wi_ldc2_w (e := 4370489) (nx := 202) (r1 := 4370489) (r2 := 0) (r3 := 0) rfl (by decide) ?_
                refine wi_iconst (n := 0) (nx := 203) (r1 := 0) (r2 := 0) (r3 := 0) rfl ?_
                refine wi_bipush (n := 9) (nx := 205) (r1 := 0) (r2 := 0) (r3 := 0) rfl (by decide) ?_
                refine wr_V (k0 := 236) (rest := [vi 8, .ref 239]) (as := [.ref 236, vl 4370489, vi 0, vi 9]) (nx := 208) (r1 := 228) (r2 := 3) (r3 := 11) rfl rfl rfl (of_decide_eq_true rfl) rfl rfl (by decide) rfl rfl (of_decide_eq_true rfl) (of_decide_eq_true rfl) ?_
                have e60 : h57 236 4 = h50 236 4 := (u57 236 4 rfl)
                have e61 : h57 236 3 = h 236 3 := ((u57 236 3 rfl).trans ((u50 236 3 rfl).trans ((u48 236 3 rfl).trans (u43 236 3 rfl))))
                refine ct_228_236 hcr  g57 4370489 0 9 (by omega) (by omega) (by omega) (show (h57 236 4) ≤ (h57 236 3) by omega) (fun h59 z62 g59 u59 (fz62 : 0 ≤ z62 ∧ z62 ≤ 999) (p59_0 : (h57 236 4) ≤ (h59 236 4)) (p59_1 : (h59 236 4) ≤ (h57 236 3)) (p59_2 : 1 ≤ (h59 236 8) ∨ (h57 236 8) = 0) (p59_3 : 1 ≤ (h59 236 8) ∨ (0 ≤ z62 ∧ z62 ≤ 9)) => ?_)
                have F63 := F58.then (by decide +kernel) u59
                have b64 := gi_b (lo := 0) (hi := 800) g59 236 4 rfl
                have b65 := gi_b (lo := 0) (hi := 5) g59 236 8 rfl
                refine wk_i ?_
                refine wr_is (k0 := 239) (a := 8) (f := 8) (x := z62) (bl := 0) (bh := 999) (nx := 209) (r1 := 0) (r2 := 0) (r3 := 0) rfl (by decide) rfl (by omega) (by omega) (by decide) g59 rfl (by omega) (fun h66 g66 w66 u66 => ?_)
                have F67 := F63.then rfl u66
                refine wi_goto (nx := 212) (r1 := 256) (r2 := 0) (r3 := 0) rfl ?_
                refine wi_return (nx := 257) (r1 := 0) (r2 := 0) (r3 := 0) rfl rfl ?_
                have e68 : h66 236 4 = h59 236 4 := (u66 236 4 rfl)
                have e69 : h66 236 8 = h59 236 8 := (u66 236 8 rfl)
                have e70 : h66 239 5 = h 239 5 := ((u66 239 5 rfl).trans ((u59 239 5 rfl).trans ((u57 239 5 rfl).trans ((u50 239 5 rfl).trans ((u48 239 5 rfl).trans (u43 239 5 rfl))))))
                have e71 : h66 239 7 = z53 := ((u66 239 7 rfl).trans ((u59 239 7 rfl).trans w57))
                have e72 : h66 239 15 = h 239 15 := ((u66 239 15 rfl).trans ((u59 239 15 rfl).trans ((u57 239 15 rfl).trans ((u50 239 15 rfl).trans ((u48 239 15 rfl).trans (u43 239 15 rfl))))))
                have e73 : h66 239 16 = h 239 16 := ((u66 239 16 rfl).trans ((u59 239 16 rfl).trans ((u57 239 16 rfl).trans ((u50 239 16 rfl).trans ((u48 239 16 rfl).trans (u43 239 16 rfl))))))
                have e74 : h66 239 17 = h 239 17 := ((u66 239 17 rfl).trans ((u59 239 17 rfl).trans ((u57 239 17 rfl).trans ((u50 239 17 rfl).trans ((u48 239 17 rfl).trans (u43 239 17 rfl))))))
                have e75 : h66 239 18 = h 239 18 := ((u66 239 18 rfl).trans ((u59 239 18 rfl).trans ((u57 239 18 rfl).trans ((u50 239 18 rfl).trans ((u48 239 18 rfl).trans (u43 239 18 rfl))))))
                exact k h66 g66 F67 (show (h 236 4) ≤ (h66 236 4) by omega) (show (h66 236 4) ≤ (h 236 3) by omega) (show 1 ≤ (h66 236 8) ∨ ((h66 239 5) ≤ 9 ∧ 1 ≤ (h66 239 5) ∧ (h66 239 7) ≤ 3 ∧ (h66 239 15) ≤ 6 ∧ (h66 239 16) ≤ 6 ∧ (h66 239 17) ≤ 6 ∧ (h66 239 18) ≤ 6) by omega)
            ·
              refine wi_iconst (n := 1) (nx := 25) (r1 := 0) (r2 := 0) (r3 := 0) rfl ?_
              refine wi_goto (nx := 28) (r1 := 29) (r2 := 0) (r3 := 0) rfl ?_
              refine wi_zreturn (nx := 30) (r1 := 0) (r2 := 0) (r3 := 0) rfl rfl (by omega) ?_
              refine wk_i ?_
              refine wi_if (cd := .eq) (nx := 112) (r1 := 157) (r2 := 0) (r3 := 0) rfl (by omega) (fun (q36 : 1 = 0) => by exfalso; omega) (fun (q36 : ¬ (1 = 0)) => ?_)
              refine wi_aload_n (i := 0) (x := 236) (nx := 113) (r1 := 0) (r2 := 0) (r3 := 0) rfl rfl ?_
              refine wi_aload_n (i := 0) (x := 236) (nx := 114) (r1 := 0) (r2 := 0) (r3 := 0) rfl rfl ?_
              refine wi_aload_n (i := 0) (x := 236) (nx := 115) (r1 := 0) (r2 := 0) (r3 := 0) rfl rfl ?_
              have b37 := gi_b (lo := 0) (hi := 1) g 236 24 rfl
              refine wr_gi2 (k0 := 236) (x := h 236 24) (nx := 118) (r1 := 11) (r2 := 24) (r3 := 0) rfl rfl (by decide) rfl ⟨rfl, rfl⟩ rfl rfl ?_
              refine wr_V (k0 := 236) (rest := [.ref 236]) (as := [.ref 236, vi (h 236 24)]) (nx := 121) (r1 := 234) (r2 := 1) (r3 := 11) rfl rfl rfl (of_decide_eq_true rfl) rfl rfl (by decide) rfl rfl (of_decide_eq_true rfl) (of_decide_eq_true rfl) ?_
              refine ct_234_236 hcr  g (h 236 24) (by omega) (show (h 236 4) ≤ (h 236 3) by omega) (fun h38 z39 g38 u38 (fz39 : 1 ≤ z39 ∧ z39 ≤ 1) (p38_0 : (h 236 4) ≤ (h38 236 4)) (p38_1 : (h38 236 4) ≤ (h 236 3)) (p38_2 : 1 ≤ (h38 236 8) ∨ (h 236 8) = 0) => ?_)
              have F40 := F0.then (by decide +kernel) u38
              have b41 := gi_b (lo := 0) (hi := 800) g38 236 4 rfl
              have b42 := gi_b (lo := 0) (hi := 5) g38 236 8 rfl
              refine wk_i ?_
              refine wr_pf2 (k0 := 236) (x := z39) (bl := 0) (bh := 1) (nx := 124) (r1 := 11) (r2 := 24) (r3 := 2) rfl (by decide) rfl ⟨rfl, rfl⟩ rfl (by omega) rfl g38 rfl (by omega) (fun h43 g43 w43 u43 => ?_)
              have F44 := F40.then rfl u43
              refine wi_aload_n (i := 0) (x := 236) (nx := 125) (r1 := 0) (r2 := 0) (r3 := 0) rfl rfl ?_
              refine wr_gr (k0 := 236) (x := 239) (nx := 128) (r1 := 11) (r2 := 14) (r3 := 0) rfl rfl (by decide) rfl ⟨rfl, rfl⟩ rfl ?_
              refine wi_iconst (n := 5) (nx := 129) (r1 := 0) (r2 := 0) (r3 := 0) rfl ?_
              refine wi_aload_n (i := 0) (x := 236) (nx := 130) (r1 := 0) (r2 := 0) (r3 := 0) rfl rfl ?_
              refine wi_iconst (n := 1) (nx := 131) (r1 := 0) (r2 := 0) (r3 := 0) rfl ?_
              refine wi_bipush (n := 9) (nx := 133) (r1 := 0) (r2 := 0) (r3 := 0) rfl (by decide) ?_
              refine wr_V (k0 := 236) (rest := [vi 5, .ref 239]) (as := [.ref 236, vi 1, vi 9]) (nx := 136) (r1 := 231) (r2 := 2) (r3 := 11) rfl rfl rfl (of_decide_eq_true rfl) rfl rfl (by decide) rfl rfl (of_decide_eq_true rfl) (of_decide_eq_true rfl) ?_
              have e46 : h43 236 4 = h38 236 4 := (u43 236 4 rfl)
              have e47 : h43 236 3 = h 236 3 := ((u43 236 3 rfl).trans (u38 236 3 rfl))
              refine ct_231_236 hcr  g43 1 9 (by omega) (by omega) (show (h43 236 4) ≤ (h43 236 3) by omega) (fun h45 z48 g45 u45 (fz48 : 0 ≤ z48 ∧ z48 ≤ 999) (p45_0 : (h43 236 4) ≤ (h45 236 4)) (p45_1 : (h45 236 4) ≤ (h43 236 3)) (p45_2 : 1 ≤ (h45 236 8) ∨ (h43 236 8) = 0) (p45_3 : 1 ≤ (h45 236 8) ∨ (1 ≤ z48 ∧ z48 ≤ 9)) => ?_)
              have F49 := F44.then (by decide +kernel) u45
              have b50 := gi_b (lo := 0) (hi := 800) g45 236 4 rfl
              have b51 := gi_b (lo := 0) (hi := 5) g45 236 8 rfl
              refine wk_i ?_
              refine wr_is (k0 := 239) (a := 5) (f := 5) (x := z48) (bl := 0) (bh := 999) (nx := 137) (r1 := 0) (r2 := 0) (r3 := 0) rfl (by decide) rfl (by omega) (by omega) (by decide) g45 rfl (by omega) (fun h52 g52 w52 u52 => ?_)
              have F53 := F49.then rfl u52
              refine wi_aload_n (i := 0) (x := 236) (nx := 138) (r1 := 0) (r2 := 0) (r3 := 0) rfl rfl ?_
              refine wr_gr (k0 := 236) (x := 239) (nx := 141) (r1 := 11) (r2 := 14) (r3 := 0) rfl rfl (by decide) rfl ⟨rfl, rfl⟩ rfl ?_
              refine wi_bipush (n := 6) (nx := 143) (r1 := 0) (r2 := 0) (r3 := 0) rfl (by decide) ?_
              refine wi_aload_n (i := 0) (x := 236) (nx := 144) (r1 := 0) (r2 := 0) (r3 := 0) rfl rfl ?_
              refine wi_ldc2_w (e := 17484005) (nx := 147) (r1 := 17484005) (r2 := 0) (r3 := 0) rfl (by decide) ?_
              refine wi_iconst (n := 0) (nx := 148) (r1 := 0) (r2 := 0) (r3 := 0) rfl ?_
              refine wi_bipush (n := 99) (nx := 150) (r1 := 0) (r2 := 0) (r3 := 0) rfl (by decide) ?_
              refine wr_V (k0 := 236) (rest := [vi 6, .ref 239]) (as := [.ref 236, vl 17484005, vi 0, vi 99]) (nx := 153) (r1 := 228) (r2 := 3) (r3 := 11) rfl rfl rfl (of_decide_eq_true rfl) rfl rfl (by decide) rfl rfl (of_decide_eq_true rfl) (of_decide_eq_true rfl) ?_
              have e55 : h52 236 4 = h45 236 4 := (u52 236 4 rfl)
              have e56 : h52 236 3 = h 236 3 := ((u52 236 3 rfl).trans ((u45 236 3 rfl).trans ((u43 236 3 rfl).trans (u38 236 3 rfl))))
              refine ct_228_236 hcr  g52 17484005 0 99 (by omega) (by omega) (by omega) (show (h52 236 4) ≤ (h52 236 3) by omega) (fun h54 z57 g54 u54 (fz57 : 0 ≤ z57 ∧ z57 ≤ 999) (p54_0 : (h52 236 4) ≤ (h54 236 4)) (p54_1 : (h54 236 4) ≤ (h52 236 3)) (p54_2 : 1 ≤ (h54 236 8) ∨ (h52 236 8) = 0) (p54_3 : 1 ≤ (h54 236 8) ∨ (0 ≤ z57 ∧ z57 ≤ 99)) => ?_)
              have F58 := F53.then (by decide +kernel) u54
              have b59 := gi_b (lo := 0) (hi := 800) g54 236 4 rfl
              have b60 := gi_b (lo := 0) (hi := 5) g54 236 8 rfl
              refine wk_i ?_
              refine wr_is (k0 := 239) (a := 6) (f := 6) (x := z57) (bl := 0) (bh := 999) (nx := 154) (r1 := 0) (r2 := 0) (r3 := 0) rfl (by decide) rfl (by omega) (by omega) (by decide) g54 rfl (by omega) (fun h61 g61 w61 u61 => ?_)
              have F62 := F58.then rfl u61
              refine wi_goto (nx := 157) (r1 := 256) (r2 := 0) (r3 := 0) rfl ?_
              refine wi_return (nx := 257) (r1 := 0) (r2 := 0) (r3 := 0) rfl rfl ?_
              have e63 : h61 236 4 = h54 236 4 := (u61 236 4 rfl)
              have e64 : h61 236 8 = h54 236 8 := (u61 236 8 rfl)
              have e65 : h61 239 5 = z48 := ((u61 239 5 rfl).trans ((u54 239 5 rfl).trans w52))
              have e66 : h61 239 7 = h 239 7 := ((u61 239 7 rfl).trans ((u54 239 7 rfl).trans ((u52 239 7 rfl).trans ((u45 239 7 rfl).trans ((u43 239 7 rfl).trans (u38 239 7 rfl))))))
              have e67 : h61 239 15 = h 239 15 := ((u61 239 15 rfl).trans ((u54 239 15 rfl).trans ((u52 239 15 rfl).trans ((u45 239 15 rfl).trans ((u43 239 15 rfl).trans (u38 239 15 rfl))))))
              have e68 : h61 239 16 = h 239 16 := ((u61 239 16 rfl).trans ((u54 239 16 rfl).trans ((u52 239 16 rfl).trans ((u45 239 16 rfl).trans ((u43 239 16 rfl).trans (u38 239 16 rfl))))))
              have e69 : h61 239 17 = h 239 17 := ((u61 239 17 rfl).trans ((u54 239 17 rfl).trans ((u52 239 17 rfl).trans ((u45 239 17 rfl).trans ((u43 239 17 rfl).trans (u38 239 17 rfl))))))
              have e70 : h61 239 18 = h 239 18 := ((u61 239 18 rfl).trans ((u54 239 18 rfl).trans ((u52 239 18 rfl).trans ((u45 239 18 rfl).trans ((u43 239 18 rfl).trans (u38 239 18 rfl))))))
              exact k h61 g61 F62 (show (h 236 4) ≤ (h61 236 4) by omega) (show (h61 236 4) ≤ (h 236 3) by omega) (show 1 ≤ (h61 236 8) ∨ ((h61 239 5) ≤ 9 ∧ 1 ≤ (h61 239 5) ∧ (h61 239 7) ≤ 3 ∧ (h61 239 15) ≤ 6 ∧ (h61 239 16) ≤ 6 ∧ (h61 239 17) ≤ 6 ∧ (h61 239 18) ≤ 6) by omega)
          ·
            refine wi_iconst (n := 1) (nx := 25) (r1 := 0) (r2 := 0) (r3 := 0) rfl ?_
            refine wi_goto (nx := 28) (r1 := 29) (r2 := 0) (r3 := 0) rfl ?_
            refine wi_zreturn (nx := 30) (r1 := 0) (r2 := 0) (r3 := 0) rfl rfl (by omega) ?_
            refine wk_i ?_
            refine wi_if (cd := .eq) (nx := 61) (r1 := 102) (r2 := 0) (r3 := 0) rfl (by omega) (fun (q31 : 1 = 0) => by exfalso; omega) (fun (q31 : ¬ (1 = 0)) => ?_)
            refine wi_aload_n (i := 0) (x := 236) (nx := 62) (r1 := 0) (r2 := 0) (r3 := 0) rfl rfl ?_
            refine wi_aload_n (i := 0) (x := 236) (nx := 63) (r1 := 0) (r2 := 0) (r3 := 0) rfl rfl ?_
            refine wi_aload_n (i := 0) (x := 236) (nx := 64) (r1 := 0) (r2 := 0) (r3 := 0) rfl rfl ?_
            have b32 := gi_b (lo := 0) (hi := 1) g 236 23 rfl
            refine wr_gi2 (k0 := 236) (x := h 236 23) (nx := 67) (r1 := 11) (r2 := 23) (r3 := 0) rfl rfl (by decide) rfl ⟨rfl, rfl⟩ rfl rfl ?_
            refine wr_V (k0 := 236) (rest := [.ref 236]) (as := [.ref 236, vi (h 236 23)]) (nx := 70) (r1 := 234) (r2 := 1) (r3 := 11) rfl rfl rfl (of_decide_eq_true rfl) rfl rfl (by decide) rfl rfl (of_decide_eq_true rfl) (of_decide_eq_true rfl) ?_
            refine ct_234_236 hcr  g (h 236 23) (by omega) (show (h 236 4) ≤ (h 236 3) by omega) (fun h33 z34 g33 u33 (fz34 : 1 ≤ z34 ∧ z34 ≤ 1) (p33_0 : (h 236 4) ≤ (h33 236 4)) (p33_1 : (h33 236 4) ≤ (h 236 3)) (p33_2 : 1 ≤ (h33 236 8) ∨ (h 236 8) = 0) => ?_)
            have F35 := F0.then (by decide +kernel) u33
            have b36 := gi_b (lo := 0) (hi := 800) g33 236 4 rfl
            have b37 := gi_b (lo := 0) (hi := 5) g33 236 8 rfl
            refine wk_i ?_
            refine wr_pf2 (k0 := 236) (x := z34) (bl := 0) (bh := 1) (nx := 73) (r1 := 11) (r2 := 23) (r3 := 2) rfl (by decide) rfl ⟨rfl, rfl⟩ rfl (by omega) rfl g33 rfl (by omega) (fun h38 g38 w38 u38 => ?_)
            have F39 := F35.then rfl u38
            refine wi_aload_n (i := 0) (x := 236) (nx := 74) (r1 := 0) (r2 := 0) (r3 := 0) rfl rfl ?_
            refine wr_gr (k0 := 236) (x := 239) (nx := 77) (r1 := 11) (r2 := 14) (r3 := 0) rfl rfl (by decide) rfl ⟨rfl, rfl⟩ rfl ?_
            refine wi_iconst (n := 3) (nx := 78) (r1 := 0) (r2 := 0) (r3 := 0) rfl ?_
            refine wi_aload_n (i := 0) (x := 236) (nx := 79) (r1 := 0) (r2 := 0) (r3 := 0) rfl rfl ?_
            refine wi_iconst (n := 0) (nx := 80) (r1 := 0) (r2 := 0) (r3 := 0) rfl ?_
            refine wi_bipush (n := 11) (nx := 82) (r1 := 0) (r2 := 0) (r3 := 0) rfl (by decide) ?_
            refine wr_V (k0 := 236) (rest := [vi 3, .ref 239]) (as := [.ref 236, vi 0, vi 11]) (nx := 85) (r1 := 231) (r2 := 2) (r3 := 11) rfl rfl rfl (of_decide_eq_true rfl) rfl rfl (by decide) rfl rfl (of_decide_eq_true rfl) (of_decide_eq_true rfl) ?_
            have e41 : h38 236 4 = h33 236 4 := (u38 236 4 rfl)
            have e42 : h38 236 3 = h 236 3 := ((u38 236 3 rfl).trans (u33 236 3 rfl))
            refine ct_231_236 hcr  g38 0 11 (by omega) (by omega) (show (h38 236 4) ≤ (h38 236 3) by omega) (fun h40 z43 g40 u40 (fz43 : 0 ≤ z43 ∧ z43 ≤ 999) (p40_0 : (h38 236 4) ≤ (h40 236 4)) (p40_1 : (h40 236 4) ≤ (h38 236 3)) (p40_2 : 1 ≤ (h40 236 8) ∨ (h38 236 8) = 0) (p40_3 : 1 ≤ (h40 236 8) ∨ (0 ≤ z43 ∧ z43 ≤ 11)) => ?_)
            have F44 := F39.then (by decide +kernel) u40
            have b45 := gi_b (lo := 0) (hi := 800) g40 236 4 rfl
            have b46 := gi_b (lo := 0) (hi := 5) g40 236 8 rfl
            refine wk_i ?_
            refine wr_is (k0 := 239) (a := 3) (f := 3) (x := z43) (bl := 0) (bh := 999) (nx := 86) (r1 := 0) (r2 := 0) (r3 := 0) rfl (by decide) rfl (by omega) (by omega) (by decide) g40 rfl (by omega) (fun h47 g47 w47 u47 => ?_)
            have F48 := F44.then rfl u47
            refine wi_aload_n (i := 0) (x := 236) (nx := 87) (r1 := 0) (r2 := 0) (r3 := 0) rfl rfl ?_
            refine wr_gr (k0 := 236) (x := 239) (nx := 90) (r1 := 11) (r2 := 14) (r3 := 0) rfl rfl (by decide) rfl ⟨rfl, rfl⟩ rfl ?_
            refine wi_iconst (n := 4) (nx := 91) (r1 := 0) (r2 := 0) (r3 := 0) rfl ?_
            refine wi_aload_n (i := 0) (x := 236) (nx := 92) (r1 := 0) (r2 := 0) (r3 := 0) rfl rfl ?_
            refine wi_iconst (n := 0) (nx := 93) (r1 := 0) (r2 := 0) (r3 := 0) rfl ?_
            refine wi_bipush (n := 11) (nx := 95) (r1 := 0) (r2 := 0) (r3 := 0) rfl (by decide) ?_
            refine wr_V (k0 := 236) (rest := [vi 4, .ref 239]) (as := [.ref 236, vi 0, vi 11]) (nx := 98) (r1 := 231) (r2 := 2) (r3 := 11) rfl rfl rfl (of_decide_eq_true rfl) rfl rfl (by decide) rfl rfl (of_decide_eq_true rfl) (of_decide_eq_true rfl) ?_
            have e50 : h47 236 4 = h40 236 4 := (u47 236 4 rfl)
            have e51 : h47 236 3 = h 236 3 := ((u47 236 3 rfl).trans ((u40 236 3 rfl).trans ((u38 236 3 rfl).trans (u33 236 3 rfl))))
            refine ct_231_236 hcr  g47 0 11 (by omega) (by omega) (show (h47 236 4) ≤ (h47 236 3) by omega) (fun h49 z52 g49 u49 (fz52 : 0 ≤ z52 ∧ z52 ≤ 999) (p49_0 : (h47 236 4) ≤ (h49 236 4)) (p49_1 : (h49 236 4) ≤ (h47 236 3)) (p49_2 : 1 ≤ (h49 236 8) ∨ (h47 236 8) = 0) (p49_3 : 1 ≤ (h49 236 8) ∨ (0 ≤ z52 ∧ z52 ≤ 11)) => ?_)
            have F53 := F48.then (by decide +kernel) u49
            have b54 := gi_b (lo := 0) (hi := 800) g49 236 4 rfl
            have b55 := gi_b (lo := 0) (hi := 5) g49 236 8 rfl
            refine wk_i ?_
            refine wr_is (k0 := 239) (a := 4) (f := 4) (x := z52) (bl := 0) (bh := 999) (nx := 99) (r1 := 0) (r2 := 0) (r3 := 0) rfl (by decide) rfl (by omega) (by omega) (by decide) g49 rfl (by omega) (fun h56 g56 w56 u56 => ?_)
            have F57 := F53.then rfl u56
            refine wi_goto (nx := 102) (r1 := 256) (r2 := 0) (r3 := 0) rfl ?_
            refine wi_return (nx := 257) (r1 := 0) (r2 := 0) (r3 := 0) rfl rfl ?_
            have e58 : h56 236 4 = h49 236 4 := (u56 236 4 rfl)
            have e59 : h56 236 8 = h49 236 8 := (u56 236 8 rfl)
            have e60 : h56 239 5 = h 239 5 := ((u56 239 5 rfl).trans ((u49 239 5 rfl).trans ((u47 239 5 rfl).trans ((u40 239 5 rfl).trans ((u38 239 5 rfl).trans (u33 239 5 rfl))))))
            have e61 : h56 239 7 = h 239 7 := ((u56 239 7 rfl).trans ((u49 239 7 rfl).trans ((u47 239 7 rfl).trans ((u40 239 7 rfl).trans ((u38 239 7 rfl).trans (u33 239 7 rfl))))))
            have e62 : h56 239 15 = h 239 15 := ((u56 239 15 rfl).trans ((u49 239 15 rfl).trans ((u47 239 15 rfl).trans ((u40 239 15 rfl).trans ((u38 239 15 rfl).trans (u33 239 15 rfl))))))
            have e63 : h56 239 16 = h 239 16 := ((u56 239 16 rfl).trans ((u49 239 16 rfl).trans ((u47 239 16 rfl).trans ((u40 239 16 rfl).trans ((u38 239 16 rfl).trans (u33 239 16 rfl))))))
            have e64 : h56 239 17 = h 239 17 := ((u56 239 17 rfl).trans ((u49 239 17 rfl).trans ((u47 239 17 rfl).trans ((u40 239 17 rfl).trans ((u38 239 17 rfl).trans (u33 239 17 rfl))))))
            have e65 : h56 239 18 = h 239 18 := ((u56 239 18 rfl).trans ((u49 239 18 rfl).trans ((u47 239 18 rfl).trans ((u40 239 18 rfl).trans ((u38 239 18 rfl).trans (u33 239 18 rfl))))))
            exact k h56 g56 F57 (show (h 236 4) ≤ (h56 236 4) by omega) (show (h56 236 4) ≤ (h 236 3) by omega) (show 1 ≤ (h56 236 8) ∨ ((h56 239 5) ≤ 9 ∧ 1 ≤ (h56 239 5) ∧ (h56 239 7) ≤ 3 ∧ (h56 239 15) ≤ 6 ∧ (h56 239 16) ≤ 6 ∧ (h56 239 17) ≤ 6 ∧ (h56 239 18) ≤ 6) by omega)
        ·
          refine wi_iconst (n := 1) (nx := 25) (r1 := 0) (r2 := 0) (r3 := 0) rfl ?_
          refine wi_goto (nx := 28) (r1 := 29) (r2 := 0) (r3 := 0) rfl ?_
          refine wi_zreturn (nx := 30) (r1 := 0) (r2 := 0) (r3 := 0) rfl rfl (by omega) ?_
          refine wk_i ?_
          refine wi_if (cd := .eq) (nx := 44) (r1 := 51) (r2 := 0) (r3 := 0) rfl (by omega) (fun (q26 : 1 = 0) => by exfalso; omega) (fun (q26 : ¬ (1 = 0)) => ?_)
          refine wi_aload_n (i := 0) (x := 236) (nx := 45) (r1 := 0) (r2 := 0) (r3 := 0) rfl rfl ?_
          refine wr_V (k0 := 236) (rest := []) (as := [.ref 236]) (nx := 48) (r1 := 233) (r2 := 0) (r3 := 11) rfl rfl rfl (of_decide_eq_true rfl) rfl rfl (by decide) rfl rfl (of_decide_eq_true rfl) (of_decide_eq_true rfl) ?_
          refine ct_233_236 hcr  g   (show (h 236 4) ≤ (h 236 3) by omega) (show (h 236 8) = 0 by omega) (show (h 239 5) ≤ 9 by omega) (show 1 ≤ (h 239 5) by omega) (show (h 239 7) ≤ 3 by omega) (show (h 239 15) ≤ 6 by omega) (show (h 239 16) ≤ 6 by omega) (show (h 239 17) ≤ 6 by omega) (show (h 239 18) ≤ 6 by omega) (fun h27 g27 u27 (p27_0 : (h 236 4) ≤ (h27 236 4)) (p27_1 : (h27 236 4) ≤ (h 236 3)) (p27_2 : 1 ≤ (h27 236 8) ∨ ((h27 239 5) ≤ 9 ∧ 1 ≤ (h27 239 5) ∧ (h27 239 7) ≤ 3 ∧ (h27 239 15) ≤ 6 ∧ (h27 239 16) ≤ 6 ∧ (h27 239 17) ≤ 6 ∧ (h27 239 18) ≤ 6)) => ?_)
          have F28 := F0.then (by decide +kernel) u27
          have b29 := gi_b (lo := 0) (hi := 800) g27 236 4 rfl
          have b30 := gi_b (lo := 0) (hi := 5) g27 236 8 rfl
          have e31 : h27 239 5 = h 239 5 := (u27 239 5 rfl)
          have e32 : h27 239 7 = h 239 7 := (u27 239 7 rfl)
          have e33 : h27 239 15 = h 239 15 := (u27 239 15 rfl)
          have e34 : h27 239 16 = h 239 16 := (u27 239 16 rfl)
          have e35 : h27 239 17 = h 239 17 := (u27 239 17 rfl)
          have e36 : h27 239 18 = h 239 18 := (u27 239 18 rfl)
          refine wk_n ?_
          refine wi_goto (nx := 51) (r1 := 256) (r2 := 0) (r3 := 0) rfl ?_
          refine wi_return (nx := 257) (r1 := 0) (r2 := 0) (r3 := 0) rfl rfl ?_
          exact k h27 g27 F28 (show (h 236 4) ≤ (h27 236 4) by omega) (show (h27 236 4) ≤ (h 236 3) by omega) (show 1 ≤ (h27 236 8) ∨ ((h27 239 5) ≤ 9 ∧ 1 ≤ (h27 239 5) ∧ (h27 239 7) ≤ 3 ∧ (h27 239 15) ≤ 6 ∧ (h27 239 16) ≤ 6 ∧ (h27 239 17) ≤ 6 ∧ (h27 239 18) ≤ 6) by omega)
      ·
        refine wi_iconst (n := 1) (nx := 25) (r1 := 0) (r2 := 0) (r3 := 0) rfl ?_
        refine wi_goto (nx := 28) (r1 := 29) (r2 := 0) (r3 := 0) rfl ?_
        refine wi_zreturn (nx := 30) (r1 := 0) (r2 := 0) (r3 := 0) rfl rfl (by omega) ?_
        refine wk_i ?_
        refine wi_if (cd := .eq) (nx := 27) (r1 := 34) (r2 := 0) (r3 := 0) rfl (by omega) (fun (q21 : 1 = 0) => by exfalso; omega) (fun (q21 : ¬ (1 = 0)) => ?_)
        refine wi_aload_n (i := 0) (x := 236) (nx := 28) (r1 := 0) (r2 := 0) (r3 := 0) rfl rfl ?_
        refine wr_V (k0 := 236) (rest := []) (as := [.ref 236]) (nx := 31) (r1 := 232) (r2 := 0) (r3 := 11) rfl rfl rfl (of_decide_eq_true rfl) rfl rfl (by decide) rfl rfl (of_decide_eq_true rfl) (of_decide_eq_true rfl) ?_
        refine ct_232_236 hcr  g   (show (h 236 4) ≤ (h 236 3) by omega) (show (h 236 8) = 0 by omega) (show (h 239 5) ≤ 9 by omega) (show 1 ≤ (h 239 5) by omega) (show (h 239 7) ≤ 3 by omega) (show (h 239 15) ≤ 6 by omega) (show (h 239 16) ≤ 6 by omega) (show (h 239 17) ≤ 6 by omega) (show (h 239 18) ≤ 6 by omega) (fun h22 g22 u22 (p22_0 : (h 236 4) ≤ (h22 236 4)) (p22_1 : (h22 236 4) ≤ (h 236 3)) (p22_2 : 1 ≤ (h22 236 8) ∨ ((h22 239 5) ≤ 9 ∧ 1 ≤ (h22 239 5) ∧ (h22 239 7) ≤ 3 ∧ (h22 239 15) ≤ 6 ∧ (h22 239 16) ≤ 6 ∧ (h22 239 17) ≤ 6 ∧ (h22 239 18) ≤ 6)) => ?_)
        have F23 := F0.then (by decide +kernel) u22
        have b24 := gi_b (lo := 0) (hi := 800) g22 236 4 rfl
        have b25 := gi_b (lo := 0) (hi := 5) g22 236 8 rfl
        have e26 : h22 239 5 = h 239 5 := (u22 239 5 rfl)
        have e27 : h22 239 7 = h 239 7 := (u22 239 7 rfl)
        have b28 := gi_b (lo := 0) (hi := 999) g22 239 15 rfl
        have b29 := gi_b (lo := 0) (hi := 999) g22 239 16 rfl
        have b30 := gi_b (lo := 0) (hi := 999) g22 239 17 rfl
        have b31 := gi_b (lo := 0) (hi := 999) g22 239 18 rfl
        refine wk_n ?_
        refine wi_goto (nx := 34) (r1 := 256) (r2 := 0) (r3 := 0) rfl ?_
        refine wi_return (nx := 257) (r1 := 0) (r2 := 0) (r3 := 0) rfl rfl ?_
        exact k h22 g22 F23 (show (h 236 4) ≤ (h22 236 4) by omega) (show (h22 236 4) ≤ (h 236 3) by omega) (show 1 ≤ (h22 236 8) ∨ ((h22 239 5) ≤ 9 ∧ 1 ≤ (h22 239 5) ∧ (h22 239 7) ≤ 3 ∧ (h22 239 15) ≤ 6 ∧ (h22 239 16) ≤ 6 ∧ (h22 239 17) ≤ 6 ∧ (h22 239 18) ≤ 6) by omega)
    ·
      refine wi_iconst (n := 1) (nx := 25) (r1 := 0) (r2 := 0) (r3 := 0) rfl ?_
      refine wi_goto (nx := 28) (r1 := 29) (r2 := 0) (r3 := 0) rfl ?_
      refine wi_zreturn (nx := 30) (r1 := 0) (r2 := 0) (r3 := 0) rfl rfl (by omega) ?_
      refine wk_i ?_
      refine wi_if (cd := .eq) (nx := 10) (r1 := 17) (r2 := 0) (r3 := 0) rfl (by omega) (fun (q16 : 1 = 0) => by exfalso; omega) (fun (q16 : ¬ (1 = 0)) => ?_)
      refine wi_aload_n (i := 0) (x := 236) (nx := 11) (r1 := 0) (r2 := 0) (r3 := 0) rfl rfl ?_
      refine wr_V (k0 := 236) (rest := []) (as := [.ref 236]) (nx := 14) (r1 := 222) (r2 := 0) (r3 := 11) rfl rfl rfl (of_decide_eq_true rfl) rfl rfl (by decide) rfl rfl (of_decide_eq_true rfl) (of_decide_eq_true rfl) ?_
      refine ct_222_236 hcr  g   (show (h 236 4) ≤ (h 236 3) by omega) (show (h 236 8) = 0 by omega) (show (h 239 5) ≤ 9 by omega) (show 1 ≤ (h 239 5) by omega) (show (h 239 7) ≤ 3 by omega) (show (h 239 15) ≤ 6 by omega) (show (h 239 16) ≤ 6 by omega) (show (h 239 17) ≤ 6 by omega) (show (h 239 18) ≤ 6 by omega) (fun h17 g17 u17 (p17_0 : (h 236 4) ≤ (h17 236 4)) (p17_1 : (h17 236 4) ≤ (h 236 3)) (p17_2 : 1 ≤ (h17 236 8) ∨ ((h17 239 5) ≤ 9 ∧ 1 ≤ (h17 239 5) ∧ (h17 239 7) ≤ 3 ∧ (h17 239 15) ≤ 6 ∧ (h17 239 16) ≤ 6 ∧ (h17 239 17) ≤ 6 ∧ (h17 239 18) ≤ 6)) => ?_)
      have F18 := F0.then (by decide +kernel) u17
      have b19 := gi_b (lo := 0) (hi := 800) g17 236 4 rfl
      have b20 := gi_b (lo := 0) (hi := 5) g17 236 8 rfl
      have e21 : h17 239 5 = h 239 5 := (u17 239 5 rfl)
      have e22 : h17 239 7 = h 239 7 := (u17 239 7 rfl)
      have e23 : h17 239 15 = h 239 15 := (u17 239 15 rfl)
      have e24 : h17 239 16 = h 239 16 := (u17 239 16 rfl)
      have e25 : h17 239 17 = h 239 17 := (u17 239 17 rfl)
      have e26 : h17 239 18 = h 239 18 := (u17 239 18 rfl)
      refine wk_n ?_
      refine wi_goto (nx := 17) (r1 := 256) (r2 := 0) (r3 := 0) rfl ?_
      refine wi_return (nx := 257) (r1 := 0) (r2 := 0) (r3 := 0) rfl rfl ?_
      exact k h17 g17 F18 (show (h 236 4) ≤ (h17 236 4) by omega) (show (h17 236 4) ≤ (h 236 3) by omega) (show 1 ≤ (h17 236 8) ∨ ((h17 239 5) ≤ 9 ∧ 1 ≤ (h17 239 5) ∧ (h17 239 7) ≤ 3 ∧ (h17 239 15) ≤ 6 ∧ (h17 239 16) ≤ 6 ∧ (h17 239 17) ≤ 6 ∧ (h17 239 18) ≤ 6) by omega)
-- method 235: Model.mustSign(I)V
set_option maxHeartbeats 100000000 in
theorem ct_235_236 {L : Nat} {xs : Nat → Int32} {d b c : Nat} {h : hp} {cr : Nat → Nat → Option Nat} {Q : hp_Q} (hcr : CR cr)  (g : GI h) (a0 : Int) (q0_ : 0 ≤ a0 ∧ a0 ≤ 255) (pp0 : h 236 4 ≤ h 236 3) (k : ∀ (h2 : hp) , GI h2 → FR [(236, 236, some (4, 4)), (236, 236, some (5, 5)), (236, 236, some (6, 6)), (236, 236, some (7, 7)), (236, 236, some (8, 8)), (236, 236, some (9, 9)), (236, 236, some (12, 12))] h h2 → (h 236 4 ≤ h2 236 4) → (h2 236 4 ≤ h 236 3) → (1 ≤ h2 236 8 ∨ h 236 8 = 0) → (1 ≤ h2 236 8 ∨ h2 236 6 = 0 ∨ h 236 4 + 1 ≤ h2 236 4) → Q (.inl none) (hp_w h2 cr) b c) : wp (md_xa (L, xs)) (d + 2) 235 (0, [(0, .ref 236), (1, vi a0)], [], hp_w h cr, b, c) Q := by
  have F0 : FR [(236, 236, some (4, 4)), (236, 236, some (5, 5)), (236, 236, some (6, 6)), (236, 236, some (7, 7)), (236, 236, some (8, 8)), (236, 236, some (9, 9)), (236, 236, some (12, 12))] h h := FR.refl
  have b1 := gi_b (lo := 0) (hi := 800) g 236 4 rfl
  have b2 := gi_b (lo := 0) (hi := 800) g 236 3 rfl
  refine wi_aload_n (i := 0) (x := 236) (nx := 1) (r1 := 0) (r2 := 0) (r3 := 0) rfl rfl ?_
  refine wr_V (k0 := 236) (rest := []) (as := [.ref 236]) (nx := 4) (r1 := 219) (r2 := 0) (r3 := 11) rfl rfl rfl (of_decide_eq_true rfl) rfl rfl (by decide) rfl rfl (of_decide_eq_true rfl) (of_decide_eq_true rfl) ?_
  refine wi_aload_n (i := 0) (x := 236) (nx := 1) (r1 := 0) (r2 := 0) (r3 := 0) rfl rfl ?_
  have b3 := gi_b (lo := 0) (hi := 5) g 236 8 rfl
  refine wr_gi0 (k0 := 236) (x := h 236 8) (nx := 4) (r1 := 11) (r2 := 8) (r3 := 0) rfl rfl (by decide) rfl ⟨rfl, rfl⟩ rfl rfl ?_
  refine wi_if (cd := .ne) (nx := 7) (r1 := 11) (r2 := 0) (r3 := 0) rfl (by omega) (fun (q4 : (h 236 8) ≠ 0) => ?_) (fun (q4 : ¬ ((h 236 8) ≠ 0)) => ?_)
  ·
    refine wi_iconst (n := 0) (nx := 12) (r1 := 0) (r2 := 0) (r3 := 0) rfl ?_
    refine wi_zreturn (nx := 13) (r1 := 0) (r2 := 0) (r3 := 0) rfl rfl (by omega) ?_
    refine wk_i ?_
    refine wi_if (cd := .eq) (nx := 7) (r1 := 20) (r2 := 0) (r3 := 0) rfl (by omega) (fun (q5 : 0 = 0) => ?_) (fun (q5 : ¬ (0 = 0)) => by exfalso; omega)
    refine wi_aload_n (i := 0) (x := 236) (nx := 21) (r1 := 0) (r2 := 0) (r3 := 0) rfl rfl ?_
    refine wr_V (k0 := 236) (rest := []) (as := [.ref 236]) (nx := 24) (r1 := 219) (r2 := 0) (r3 := 11) rfl rfl rfl (of_decide_eq_true rfl) rfl rfl (by decide) rfl rfl (of_decide_eq_true rfl) (of_decide_eq_true rfl) ?_
    refine wi_aload_n (i := 0) (x := 236) (nx := 1) (r1 := 0) (r2 := 0) (r3 := 0) rfl rfl ?_
    refine wr_gi0 (k0 := 236) (x := h 236 8) (nx := 4) (r1 := 11) (r2 := 8) (r3 := 0) rfl rfl (by decide) rfl ⟨rfl, rfl⟩ rfl rfl ?_
    refine wi_if (cd := .ne) (nx := 7) (r1 := 11) (r2 := 0) (r3 := 0) rfl (by omega) (fun (q6 : (h 236 8) ≠ 0) => ?_) (fun (q6 : ¬ ((h 236 8) ≠ 0)) => by exfalso; omega)
    refine wi_iconst (n := 0) (nx := 12) (r1 := 0) (r2 := 0) (r3 := 0) rfl ?_
    refine wi_zreturn (nx := 13) (r1 := 0) (r2 := 0) (r3 := 0) rfl rfl (by omega) ?_
    refine wk_i ?_
    refine wi_if (cd := .eq) (nx := 27) (r1 := 31) (r2 := 0) (r3 := 0) rfl (by omega) (fun (q7 : 0 = 0) => ?_) (fun (q7 : ¬ (0 = 0)) => by exfalso; omega)
    refine wi_return (nx := 32) (r1 := 0) (r2 := 0) (r3 := 0) rfl rfl ?_
    have b8 := gi_b (lo := 0) (hi := 4) g 236 6 rfl
    exact k h g F0 (show (h 236 4) ≤ (h 236 4) by omega) (show (h 236 4) ≤ (h 236 3) by omega) (show 1 ≤ (h 236 8) ∨ (h 236 8) = 0 by omega) (show 1 ≤ (h 236 8) ∨ (h 236 6) = 0 ∨ (h 236 4) + 1 ≤ (h 236 4) by omega)
  ·
    refine wi_iconst (n := 1) (nx := 8) (r1 := 0) (r2 := 0) (r3 := 0) rfl ?_
    refine wi_goto (nx := 11) (r1 := 12) (r2 := 0) (r3 := 0) rfl ?_
    refine wi_zreturn (nx := 13) (r1 := 0) (r2 := 0) (r3 := 0) rfl rfl (by omega) ?_
    refine wk_i ?_
    refine wi_if (cd := .eq) (nx := 7) (r1 := 20) (r2 := 0) (r3 := 0) rfl (by omega) (fun (q5 : 1 = 0) => by exfalso; omega) (fun (q5 : ¬ (1 = 0)) => ?_)
    refine wi_aload_n (i := 0) (x := 236) (nx := 8) (r1 := 0) (r2 := 0) (r3 := 0) rfl rfl ?_
    refine wi_iload_n (i := 1) (e := a0) (nx := 9) (r1 := 0) (r2 := 0) (r3 := 0) rfl rfl ?_
    refine wr_V (k0 := 236) (rest := []) (as := [.ref 236, vi a0]) (nx := 12) (r1 := 236) (r2 := 1) (r3 := 11) rfl rfl rfl (of_decide_eq_true rfl) rfl rfl (by decide) rfl rfl (of_decide_eq_true rfl) (of_decide_eq_true rfl) ?_
    refine wi_aload_n (i := 0) (x := 236) (nx := 1) (r1 := 0) (r2 := 0) (r3 := 0) rfl rfl ?_
    refine wr_gi0 (k0 := 236) (x := h 236 8) (nx := 4) (r1 := 11) (r2 := 8) (r3 := 0) rfl rfl (by decide) rfl ⟨rfl, rfl⟩ rfl rfl ?_
    refine wi_if (cd := .ne) (nx := 7) (r1 := 27) (r2 := 0) (r3 := 0) rfl (by omega) (fun (q6 : (h 236 8) ≠ 0) => by exfalso; omega) (fun (q6 : ¬ ((h 236 8) ≠ 0)) => ?_)
    refine wi_aload_n (i := 0) (x := 236) (nx := 8) (r1 := 0) (r2 := 0) (r3 := 0) rfl rfl ?_
    have b7 := gi_b (lo := 0) (hi := 4) g 236 6 rfl
    refine wr_gi0 (k0 := 236) (x := h 236 6) (nx := 11) (r1 := 11) (r2 := 6) (r3 := 0) rfl rfl (by decide) rfl ⟨rfl, rfl⟩ rfl rfl ?_
    refine wi_iconst (n := 3) (nx := 12) (r1 := 0) (r2 := 0) (r3 := 0) rfl ?_
    refine wi_icmp (cd := .ne) (nx := 15) (r1 := 27) (r2 := 0) (r3 := 0) rfl (by omega) (by omega) (fun (q8 : (h 236 6) ≠ 3) => ?_) (fun (q8 : ¬ ((h 236 6) ≠ 3)) => ?_)
    ·
      refine wi_iconst (n := 0) (nx := 28) (r1 := 0) (r2 := 0) (r3 := 0) rfl ?_
      refine wi_zreturn (nx := 29) (r1 := 0) (r2 := 0) (r3 := 0) rfl rfl (by omega) ?_
      refine wk_i ?_
      refine wi_if (cd := .ne) (nx := 15) (r1 := 20) (r2 := 0) (r3 := 0) rfl (by omega) (fun (q9 : 0 ≠ 0) => by exfalso; omega) (fun (q9 : ¬ (0 ≠ 0)) => ?_)
      refine wi_aload_n (i := 0) (x := 236) (nx := 16) (r1 := 0) (r2 := 0) (r3 := 0) rfl rfl ?_
      refine wi_iconst (n := 1) (nx := 17) (r1 := 0) (r2 := 0) (r3 := 0) rfl ?_
      refine wr_V (k0 := 236) (rest := []) (as := [.ref 236, vi 1]) (nx := 20) (r1 := 224) (r2 := 1) (r3 := 11) rfl rfl rfl (of_decide_eq_true rfl) rfl rfl (by decide) rfl rfl (of_decide_eq_true rfl) (of_decide_eq_true rfl) ?_
      refine ct_224_236 hcr  g 1 (by omega)  (fun h10 g10 u10 (p10_0 : 1 ≤ (h10 236 8)) => ?_)
      have F11 := F0.then (by decide +kernel) u10
      have b12 := gi_b (lo := 0) (hi := 5) g10 236 8 rfl
      refine wk_n ?_
      refine wi_aload_n (i := 0) (x := 236) (nx := 21) (r1 := 0) (r2 := 0) (r3 := 0) rfl rfl ?_
      refine wr_V (k0 := 236) (rest := []) (as := [.ref 236]) (nx := 24) (r1 := 219) (r2 := 0) (r3 := 11) rfl rfl rfl (of_decide_eq_true rfl) rfl rfl (by decide) rfl rfl (of_decide_eq_true rfl) (of_decide_eq_true rfl) ?_
      refine wi_aload_n (i := 0) (x := 236) (nx := 1) (r1 := 0) (r2 := 0) (r3 := 0) rfl rfl ?_
      refine wr_gi0 (k0 := 236) (x := h10 236 8) (nx := 4) (r1 := 11) (r2 := 8) (r3 := 0) rfl rfl (by decide) rfl ⟨rfl, rfl⟩ rfl rfl ?_
      refine wi_if (cd := .ne) (nx := 7) (r1 := 11) (r2 := 0) (r3 := 0) rfl (by omega) (fun (q13 : (h10 236 8) ≠ 0) => ?_) (fun (q13 : ¬ ((h10 236 8) ≠ 0)) => by exfalso; omega)
      refine wi_iconst (n := 0) (nx := 12) (r1 := 0) (r2 := 0) (r3 := 0) rfl ?_
      refine wi_zreturn (nx := 13) (r1 := 0) (r2 := 0) (r3 := 0) rfl rfl (by omega) ?_
      refine wk_i ?_
      refine wi_if (cd := .eq) (nx := 27) (r1 := 31) (r2 := 0) (r3 := 0) rfl (by omega) (fun (q14 : 0 = 0) => ?_) (fun (q14 : ¬ (0 = 0)) => by exfalso; omega)
      refine wi_return (nx := 32) (r1 := 0) (r2 := 0) (r3 := 0) rfl rfl ?_
      have e15 : h10 236 4 = h 236 4 := (u10 236 4 rfl)
      have e16 : h10 236 6 = h 236 6 := (u10 236 6 rfl)
      exact k h10 g10 F11 (show (h 236 4) ≤ (h10 236 4) by omega) (show (h10 236 4) ≤ (h 236 3) by omega) (show 1 ≤ (h10 236 8) ∨ (h 236 8) = 0 by omega) (show 1 ≤ (h10 236 8) ∨ (h10 236 6) = 0 ∨ (h 236 4) + 1 ≤ (h10 236 4) by omega)
    ·
      refine wi_aload_n (i := 0) (x := 236) (nx := 16) (r1 := 0) (r2 := 0) (r3 := 0) rfl rfl ?_
      have b9 := gi_b (lo := 0) (hi := 999) g 236 7 rfl
      refine wr_gi0 (k0 := 236) (x := h 236 7) (nx := 19) (r1 := 11) (r2 := 7) (r3 := 0) rfl rfl (by decide) rfl ⟨rfl, rfl⟩ rfl rfl ?_
      refine wi_iload_n (i := 1) (e := a0) (nx := 20) (r1 := 0) (r2 := 0) (r3 := 0) rfl rfl ?_
      refine wi_icmp (cd := .ne) (nx := 23) (r1 := 27) (r2 := 0) (r3 := 0) rfl (by omega) (by omega) (fun (q10 : (h 236 7) ≠ a0) => ?_) (fun (q10 : ¬ ((h 236 7) ≠ a0)) => ?_)
      ·
        refine wi_iconst (n := 0) (nx := 28) (r1 := 0) (r2 := 0) (r3 := 0) rfl ?_
        refine wi_zreturn (nx := 29) (r1 := 0) (r2 := 0) (r3 := 0) rfl rfl (by omega) ?_
        refine wk_i ?_
        refine wi_if (cd := .ne) (nx := 15) (r1 := 20) (r2 := 0) (r3 := 0) rfl (by omega) (fun (q11 : 0 ≠ 0) => by exfalso; omega) (fun (q11 : ¬ (0 ≠ 0)) => ?_)
        refine wi_aload_n (i := 0) (x := 236) (nx := 16) (r1 := 0) (r2 := 0) (r3 := 0) rfl rfl ?_
        refine wi_iconst (n := 1) (nx := 17) (r1 := 0) (r2 := 0) (r3 := 0) rfl ?_
        refine wr_V (k0 := 236) (rest := []) (as := [.ref 236, vi 1]) (nx := 20) (r1 := 224) (r2 := 1) (r3 := 11) rfl rfl rfl (of_decide_eq_true rfl) rfl rfl (by decide) rfl rfl (of_decide_eq_true rfl) (of_decide_eq_true rfl) ?_
        refine ct_224_236 hcr  g 1 (by omega)  (fun h12 g12 u12 (p12_0 : 1 ≤ (h12 236 8)) => ?_)
        have F13 := F0.then (by decide +kernel) u12
        have b14 := gi_b (lo := 0) (hi := 5) g12 236 8 rfl
        refine wk_n ?_
        refine wi_aload_n (i := 0) (x := 236) (nx := 21) (r1 := 0) (r2 := 0) (r3 := 0) rfl rfl ?_
        refine wr_V (k0 := 236) (rest := []) (as := [.ref 236]) (nx := 24) (r1 := 219) (r2 := 0) (r3 := 11) rfl rfl rfl (of_decide_eq_true rfl) rfl rfl (by decide) rfl rfl (of_decide_eq_true rfl) (of_decide_eq_true rfl) ?_
        refine wi_aload_n (i := 0) (x := 236) (nx := 1) (r1 := 0) (r2 := 0) (r3 := 0) rfl rfl ?_
        refine wr_gi0 (k0 := 236) (x := h12 236 8) (nx := 4) (r1 := 11) (r2 := 8) (r3 := 0) rfl rfl (by decide) rfl ⟨rfl, rfl⟩ rfl rfl ?_
        refine wi_if (cd := .ne) (nx := 7) (r1 := 11) (r2 := 0) (r3 := 0) rfl (by omega) (fun (q15 : (h12 236 8) ≠ 0) => ?_) (fun (q15 : ¬ ((h12 236 8) ≠ 0)) => by exfalso; omega)
        refine wi_iconst (n := 0) (nx := 12) (r1 := 0) (r2 := 0) (r3 := 0) rfl ?_
        refine wi_zreturn (nx := 13) (r1 := 0) (r2 := 0) (r3 := 0) rfl rfl (by omega) ?_
        refine wk_i ?_
        refine wi_if (cd := .eq) (nx := 27) (r1 := 31) (r2 := 0) (r3 := 0) rfl (by omega) (fun (q16 : 0 = 0) => ?_) (fun (q16 : ¬ (0 = 0)) => by exfalso; omega)
        refine wi_return (nx := 32) (r1 := 0) (r2 := 0) (r3 := 0) rfl rfl ?_
        have e17 : h12 236 4 = h 236 4 := (u12 236 4 rfl)
        have e18 : h12 236 6 = h 236 6 := (u12 236 6 rfl)
        exact k h12 g12 F13 (show (h 236 4) ≤ (h12 236 4) by omega) (show (h12 236 4) ≤ (h 236 3) by omega) (show 1 ≤ (h12 236 8) ∨ (h 236 8) = 0 by omega) (show 1 ≤ (h12 236 8) ∨ (h12 236 6) = 0 ∨ (h 236 4) + 1 ≤ (h12 236 4) by omega)
      ·
        refine wi_iconst (n := 1) (nx := 24) (r1 := 0) (r2 := 0) (r3 := 0) rfl ?_
        refine wi_goto (nx := 27) (r1 := 28) (r2 := 0) (r3 := 0) rfl ?_
        refine wi_zreturn (nx := 29) (r1 := 0) (r2 := 0) (r3 := 0) rfl rfl (by omega) ?_
        refine wk_i ?_
        refine wi_if (cd := .ne) (nx := 15) (r1 := 20) (r2 := 0) (r3 := 0) rfl (by omega) (fun (q11 : 1 ≠ 0) => ?_) (fun (q11 : ¬ (1 ≠ 0)) => by exfalso; omega)
        refine wi_aload_n (i := 0) (x := 236) (nx := 21) (r1 := 0) (r2 := 0) (r3 := 0) rfl rfl ?_
        refine wr_V (k0 := 236) (rest := []) (as := [.ref 236]) (nx := 24) (r1 := 219) (r2 := 0) (r3 := 11) rfl rfl rfl (of_decide_eq_true rfl) rfl rfl (by decide) rfl rfl (of_decide_eq_true rfl) (of_decide_eq_true rfl) ?_
        refine wi_aload_n (i := 0) (x := 236) (nx := 1) (r1 := 0) (r2 := 0) (r3 := 0) rfl rfl ?_
        refine wr_gi0 (k0 := 236) (x := h 236 8) (nx := 4) (r1 := 11) (r2 := 8) (r3 := 0) rfl rfl (by decide) rfl ⟨rfl, rfl⟩ rfl rfl ?_
        refine wi_if (cd := .ne) (nx := 7) (r1 := 11) (r2 := 0) (r3 := 0) rfl (by omega) (fun (q12 : (h 236 8) ≠ 0) => by exfalso; omega) (fun (q12 : ¬ ((h 236 8) ≠ 0)) => ?_)
        refine wi_iconst (n := 1) (nx := 8) (r1 := 0) (r2 := 0) (r3 := 0) rfl ?_
        refine wi_goto (nx := 11) (r1 := 12) (r2 := 0) (r3 := 0) rfl ?_
        refine wi_zreturn (nx := 13) (r1 := 0) (r2 := 0) (r3 := 0) rfl rfl (by omega) ?_
        refine wk_i ?_
        refine wi_if (cd := .eq) (nx := 27) (r1 := 31) (r2 := 0) (r3 := 0) rfl (by omega) (fun (q13 : 1 = 0) => by exfalso; omega) (fun (q13 : ¬ (1 = 0)) => ?_)
        refine wi_aload_n (i := 0) (x := 236) (nx := 28) (r1 := 0) (r2 := 0) (r3 := 0) rfl rfl ?_
        refine wr_V (k0 := 236) (rest := []) (as := [.ref 236]) (nx := 31) (r1 := 215) (r2 := 0) (r3 := 11) rfl rfl rfl (of_decide_eq_true rfl) rfl rfl (by decide) rfl rfl (of_decide_eq_true rfl) (of_decide_eq_true rfl) ?_
        refine ct_215_236 hcr  g   (show (h 236 4) ≤ (h 236 3) by omega) (fun h14 g14 u14 (p14_0 : (h 236 4) ≤ (h14 236 4)) (p14_1 : (h14 236 4) ≤ (h 236 3)) (p14_2 : (h14 236 6) = 0 ∨ (h 236 4) + 1 ≤ (h14 236 4)) => ?_)
        have F15 := F0.then (by decide +kernel) u14
        have b16 := gi_b (lo := 0) (hi := 800) g14 236 4 rfl
        have b17 := gi_b (lo := 0) (hi := 4) g14 236 6 rfl
        refine wk_n ?_
        refine wi_return (nx := 32) (r1 := 0) (r2 := 0) (r3 := 0) rfl rfl ?_
        have e18 : h14 236 8 = h 236 8 := (u14 236 8 rfl)
        exact k h14 g14 F15 (show (h 236 4) ≤ (h14 236 4) by omega) (show (h14 236 4) ≤ (h 236 3) by omega) (show 1 ≤ (h14 236 8) ∨ (h 236 8) = 0 by omega) (show 1 ≤ (h14 236 8) ∨ (h14 236 6) = 0 ∨ (h 236 4) + 1 ≤ (h14 236 4) by omega)
