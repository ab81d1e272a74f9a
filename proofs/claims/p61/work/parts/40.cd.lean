-- method 136: Integer.bitCount(I)I
set_option maxRecDepth 100000 in
set_option maxHeartbeats 100000000 in
theorem ct_136 {L : Nat} {xs : Nat → Int32} {d b c : Nat} {h : hp} {cr : Nat → Nat → Option Nat} {Q : hp_Q} (hcr : CR cr)  (g : GI h) (a0 : Int) (q0_ : -2147483648 ≤ a0 ∧ a0 ≤ 2147483647) (pp0 : a0 = 0 ∨ a0 = 1 ∨ a0 = 3 ∨ a0 = 7 ∨ a0 = 15 ∨ a0 = 31 ∨ a0 = 63 ∨ a0 = 127 ∨ a0 = 255 ∨ a0 = 511 ∨ a0 = 1023 ∨ a0 = 2047) (k : ∀ (z0 : Int), (0 ≤ z0 ∧ z0 ≤ 11) → (0 ≤ z0 ∧ z0 ≤ 11) → (2 ^ z0.toNat = a0.toNat + 1) → Q (.inl (some (vi z0))) (hp_w h cr) b c) : wp (md_xa (L, xs)) d 136 (0, [(0, vi a0)], [], hp_w h cr, b, c) Q := by
  have F0 : FR [] h h := FR.refl
  obtain rfl | rfl | rfl | rfl | rfl | rfl | rfl | rfl | rfl | rfl | rfl | rfl : a0 = 0 ∨ a0 = 1 ∨ a0 = 3 ∨ a0 = 7 ∨ a0 = 15 ∨ a0 = 31 ∨ a0 = 63 ∨ a0 = 127 ∨ a0 = 255 ∨ a0 = 511 ∨ a0 = 1023 ∨ a0 = 2047 := by omega
  ·
    refine wi_iload_n (i := 0) (e := 0) (nx := 1) (r1 := 0) (r2 := 0) (r3 := 0) rfl rfl ?_
    refine wi_iload_n (i := 0) (e := 0) (nx := 2) (r1 := 0) (r2 := 0) (r3 := 0) rfl rfl ?_
    refine wi_iconst (n := 1) (nx := 3) (r1 := 0) (r2 := 0) (r3 := 0) rfl ?_
    refine wr_iushrL 0 (nx := 4) (r1 := 0) (r2 := 0) (r3 := 0) rfl (by decide) ?_
    refine wi_ldc_w (e := 1431655765) (nx := 7) (r1 := 0) (r2 := 1431655765) (r3 := 0) rfl (by decide) ?_
    refine wi_iand (e := 0) (nx := 8) (r1 := 0) (r2 := 0) (r3 := 0) rfl (by decide) ?_
    refine wr_subL (0) (nx := 9) (r1 := 0) (r2 := 0) (r3 := 0) rfl (by decide) ?_
    refine wi_istore_n (i := 0) (e := 0) (lo2 := [(0, vi 0)]) (nx := 10) (r1 := 0) (r2 := 0) (r3 := 0) rfl rfl ?_
    refine wi_iload_n (i := 0) (e := 0) (nx := 11) (r1 := 0) (r2 := 0) (r3 := 0) rfl rfl ?_
    refine wi_ldc_w (e := 858993459) (nx := 14) (r1 := 0) (r2 := 858993459) (r3 := 0) rfl (by decide) ?_
    refine wi_iand (e := 0) (nx := 15) (r1 := 0) (r2 := 0) (r3 := 0) rfl (by decide) ?_
    refine wi_iload_n (i := 0) (e := 0) (nx := 16) (r1 := 0) (r2 := 0) (r3 := 0) rfl rfl ?_
    refine wi_iconst (n := 2) (nx := 17) (r1 := 0) (r2 := 0) (r3 := 0) rfl ?_
    refine wr_iushrL 0 (nx := 18) (r1 := 0) (r2 := 0) (r3 := 0) rfl (by decide) ?_
    refine wi_ldc_w (e := 858993459) (nx := 21) (r1 := 0) (r2 := 858993459) (r3 := 0) rfl (by decide) ?_
    refine wi_iand (e := 0) (nx := 22) (r1 := 0) (r2 := 0) (r3 := 0) rfl (by decide) ?_
    refine wr_addL (0) (nx := 23) (r1 := 0) (r2 := 0) (r3 := 0) rfl (by decide) ?_
    refine wi_istore_n (i := 0) (e := 0) (lo2 := [(0, vi 0)]) (nx := 24) (r1 := 0) (r2 := 0) (r3 := 0) rfl rfl ?_
    refine wi_iload_n (i := 0) (e := 0) (nx := 25) (r1 := 0) (r2 := 0) (r3 := 0) rfl rfl ?_
    refine wi_iload_n (i := 0) (e := 0) (nx := 26) (r1 := 0) (r2 := 0) (r3 := 0) rfl rfl ?_
    refine wi_iconst (n := 4) (nx := 27) (r1 := 0) (r2 := 0) (r3 := 0) rfl ?_
    refine wr_iushrL 0 (nx := 28) (r1 := 0) (r2 := 0) (r3 := 0) rfl (by decide) ?_
    refine wr_addL (0) (nx := 29) (r1 := 0) (r2 := 0) (r3 := 0) rfl (by decide) ?_
    refine wi_ldc_w (e := 252645135) (nx := 32) (r1 := 0) (r2 := 252645135) (r3 := 0) rfl (by decide) ?_
    refine wi_iand (e := 0) (nx := 33) (r1 := 0) (r2 := 0) (r3 := 0) rfl (by decide) ?_
    refine wi_istore_n (i := 0) (e := 0) (lo2 := [(0, vi 0)]) (nx := 34) (r1 := 0) (r2 := 0) (r3 := 0) rfl rfl ?_
    refine wi_iload_n (i := 0) (e := 0) (nx := 35) (r1 := 0) (r2 := 0) (r3 := 0) rfl rfl ?_
    refine wi_iload_n (i := 0) (e := 0) (nx := 36) (r1 := 0) (r2 := 0) (r3 := 0) rfl rfl ?_
    refine wi_bipush (n := 8) (nx := 38) (r1 := 0) (r2 := 0) (r3 := 0) rfl (by decide) ?_
    refine wr_iushrL 0 (nx := 39) (r1 := 0) (r2 := 0) (r3 := 0) rfl (by decide) ?_
    refine wr_addL (0) (nx := 40) (r1 := 0) (r2 := 0) (r3 := 0) rfl (by decide) ?_
    refine wi_istore_n (i := 0) (e := 0) (lo2 := [(0, vi 0)]) (nx := 41) (r1 := 0) (r2 := 0) (r3 := 0) rfl rfl ?_
    refine wi_iload_n (i := 0) (e := 0) (nx := 42) (r1 := 0) (r2 := 0) (r3 := 0) rfl rfl ?_
    refine wi_iload_n (i := 0) (e := 0) (nx := 43) (r1 := 0) (r2 := 0) (r3 := 0) rfl rfl ?_
    refine wi_bipush (n := 16) (nx := 45) (r1 := 0) (r2 := 0) (r3 := 0) rfl (by decide) ?_
    refine wr_iushrL 0 (nx := 46) (r1 := 0) (r2 := 0) (r3 := 0) rfl (by decide) ?_
    refine wr_addL (0) (nx := 47) (r1 := 0) (r2 := 0) (r3 := 0) rfl (by decide) ?_
    refine wi_istore_n (i := 0) (e := 0) (lo2 := [(0, vi 0)]) (nx := 48) (r1 := 0) (r2 := 0) (r3 := 0) rfl rfl ?_
    refine wi_iload_n (i := 0) (e := 0) (nx := 49) (r1 := 0) (r2 := 0) (r3 := 0) rfl rfl ?_
    refine wi_bipush (n := 63) (nx := 51) (r1 := 0) (r2 := 0) (r3 := 0) rfl (by decide) ?_
    refine wi_iand (e := 0) (nx := 52) (r1 := 0) (r2 := 0) (r3 := 0) rfl (by decide) ?_
    refine wi_ireturn (nx := 53) (r1 := 0) (r2 := 0) (r3 := 0) rfl rfl ?_
    exact k 0 (by omega) (show 0 ≤ 0 ∧ 0 ≤ 11 by omega) (by decide)
  ·
    refine wi_iload_n (i := 0) (e := 1) (nx := 1) (r1 := 0) (r2 := 0) (r3 := 0) rfl rfl ?_
    refine wi_iload_n (i := 0) (e := 1) (nx := 2) (r1 := 0) (r2 := 0) (r3 := 0) rfl rfl ?_
    refine wi_iconst (n := 1) (nx := 3) (r1 := 0) (r2 := 0) (r3 := 0) rfl ?_
    refine wr_iushrL 0 (nx := 4) (r1 := 0) (r2 := 0) (r3 := 0) rfl (by decide) ?_
    refine wi_ldc_w (e := 1431655765) (nx := 7) (r1 := 0) (r2 := 1431655765) (r3 := 0) rfl (by decide) ?_
    refine wi_iand (e := 0) (nx := 8) (r1 := 0) (r2 := 0) (r3 := 0) rfl (by decide) ?_
    refine wr_subL (1) (nx := 9) (r1 := 0) (r2 := 0) (r3 := 0) rfl (by decide) ?_
    refine wi_istore_n (i := 0) (e := 1) (lo2 := [(0, vi 1)]) (nx := 10) (r1 := 0) (r2 := 0) (r3 := 0) rfl rfl ?_
    refine wi_iload_n (i := 0) (e := 1) (nx := 11) (r1 := 0) (r2 := 0) (r3 := 0) rfl rfl ?_
    refine wi_ldc_w (e := 858993459) (nx := 14) (r1 := 0) (r2 := 858993459) (r3 := 0) rfl (by decide) ?_
    refine wi_iand (e := 1) (nx := 15) (r1 := 0) (r2 := 0) (r3 := 0) rfl (by decide) ?_
    refine wi_iload_n (i := 0) (e := 1) (nx := 16) (r1 := 0) (r2 := 0) (r3 := 0) rfl rfl ?_
    refine wi_iconst (n := 2) (nx := 17) (r1 := 0) (r2 := 0) (r3 := 0) rfl ?_
    refine wr_iushrL 0 (nx := 18) (r1 := 0) (r2 := 0) (r3 := 0) rfl (by decide) ?_
    refine wi_ldc_w (e := 858993459) (nx := 21) (r1 := 0) (r2 := 858993459) (r3 := 0) rfl (by decide) ?_
    refine wi_iand (e := 0) (nx := 22) (r1 := 0) (r2 := 0) (r3 := 0) rfl (by decide) ?_
    refine wr_addL (1) (nx := 23) (r1 := 0) (r2 := 0) (r3 := 0) rfl (by decide) ?_
    refine wi_istore_n (i := 0) (e := 1) (lo2 := [(0, vi 1)]) (nx := 24) (r1 := 0) (r2 := 0) (r3 := 0) rfl rfl ?_
    refine wi_iload_n (i := 0) (e := 1) (nx := 25) (r1 := 0) (r2 := 0) (r3 := 0) rfl rfl ?_
    refine wi_iload_n (i := 0) (e := 1) (nx := 26) (r1 := 0) (r2 := 0) (r3 := 0) rfl rfl ?_
    refine wi_iconst (n := 4) (nx := 27) (r1 := 0) (r2 := 0) (r3 := 0) rfl ?_
    refine wr_iushrL 0 (nx := 28) (r1 := 0) (r2 := 0) (r3 := 0) rfl (by decide) ?_
    refine wr_addL (1) (nx := 29) (r1 := 0) (r2 := 0) (r3 := 0) rfl (by decide) ?_
    refine wi_ldc_w (e := 252645135) (nx := 32) (r1 := 0) (r2 := 252645135) (r3 := 0) rfl (by decide) ?_
    refine wi_iand (e := 1) (nx := 33) (r1 := 0) (r2 := 0) (r3 := 0) rfl (by decide) ?_
    refine wi_istore_n (i := 0) (e := 1) (lo2 := [(0, vi 1)]) (nx := 34) (r1 := 0) (r2 := 0) (r3 := 0) rfl rfl ?_
    refine wi_iload_n (i := 0) (e := 1) (nx := 35) (r1 := 0) (r2 := 0) (r3 := 0) rfl rfl ?_
    refine wi_iload_n (i := 0) (e := 1) (nx := 36) (r1 := 0) (r2 := 0) (r3 := 0) rfl rfl ?_
    refine wi_bipush (n := 8) (nx := 38) (r1 := 0) (r2 := 0) (r3 := 0) rfl (by decide) ?_
    refine wr_iushrL 0 (nx := 39) (r1 := 0) (r2 := 0) (r3 := 0) rfl (by decide) ?_
    refine wr_addL (1) (nx := 40) (r1 := 0) (r2 := 0) (r3 := 0) rfl (by decide) ?_
    refine wi_istore_n (i := 0) (e := 1) (lo2 := [(0, vi 1)]) (nx := 41) (r1 := 0) (r2 := 0) (r3 := 0) rfl rfl ?_
    refine wi_iload_n (i := 0) (e := 1) (nx := 42) (r1 := 0) (r2 := 0) (r3 := 0) rfl rfl ?_
    refine wi_iload_n (i := 0) (e := 1) (nx := 43) (r1 := 0) (r2 := 0) (r3 := 0) rfl rfl ?_
    refine wi_bipush (n := 16) (nx := 45) (r1 := 0) (r2 := 0) (r3 := 0) rfl (by decide) ?_
    refine wr_iushrL 0 (nx := 46) (r1 := 0) (r2 := 0) (r3 := 0) rfl (by decide) ?_
    refine wr_addL (1) (nx := 47) (r1 := 0) (r2 := 0) (r3 := 0) rfl (by decide) ?_
    refine wi_istore_n (i := 0) (e := 1) (lo2 := [(0, vi 1)]) (nx := 48) (r1 := 0) (r2 := 0) (r3 := 0) rfl rfl ?_
    refine wi_iload_n (i := 0) (e := 1) (nx := 49) (r1 := 0) (r2 := 0) (r3 := 0) rfl rfl ?_
    refine wi_bipush (n := 63) (nx := 51) (r1 := 0) (r2 := 0) (r3 := 0) rfl (by decide) ?_
    refine wi_iand (e := 1) (nx := 52) (r1 := 0) (r2 := 0) (r3 := 0) rfl (by decide) ?_
    refine wi_ireturn (nx := 53) (r1 := 0) (r2 := 0) (r3 := 0) rfl rfl ?_
    exact k 1 (by omega) (show 0 ≤ 1 ∧ 1 ≤ 11 by omega) (by decide)
  ·
    refine wi_iload_n (i := 0) (e := 3) (nx := 1) (r1 := 0) (r2 := 0) (r3 := 0) rfl rfl ?_
    refine wi_iload_n (i := 0) (e := 3) (nx := 2) (r1 := 0) (r2 := 0) (r3 := 0) rfl rfl ?_
    refine wi_iconst (n := 1) (nx := 3) (r1 := 0) (r2 := 0) (r3 := 0) rfl ?_
    refine wr_iushrL 1 (nx := 4) (r1 := 0) (r2 := 0) (r3 := 0) rfl (by decide) ?_
    refine wi_ldc_w (e := 1431655765) (nx := 7) (r1 := 0) (r2 := 1431655765) (r3 := 0) rfl (by decide) ?_
    refine wi_iand (e := 1) (nx := 8) (r1 := 0) (r2 := 0) (r3 := 0) rfl (by decide) ?_
    refine wr_subL (2) (nx := 9) (r1 := 0) (r2 := 0) (r3 := 0) rfl (by decide) ?_
    refine wi_istore_n (i := 0) (e := 2) (lo2 := [(0, vi 2)]) (nx := 10) (r1 := 0) (r2 := 0) (r3 := 0) rfl rfl ?_
    refine wi_iload_n (i := 0) (e := 2) (nx := 11) (r1 := 0) (r2 := 0) (r3 := 0) rfl rfl ?_
    refine wi_ldc_w (e := 858993459) (nx := 14) (r1 := 0) (r2 := 858993459) (r3 := 0) rfl (by decide) ?_
    refine wi_iand (e := 2) (nx := 15) (r1 := 0) (r2 := 0) (r3 := 0) rfl (by decide) ?_
    refine wi_iload_n (i := 0) (e := 2) (nx := 16) (r1 := 0) (r2 := 0) (r3 := 0) rfl rfl ?_
    refine wi_iconst (n := 2) (nx := 17) (r1 := 0) (r2 := 0) (r3 := 0) rfl ?_
    refine wr_iushrL 0 (nx := 18) (r1 := 0) (r2 := 0) (r3 := 0) rfl (by decide) ?_
    refine wi_ldc_w (e := 858993459) (nx := 21) (r1 := 0) (r2 := 858993459) (r3 := 0) rfl (by decide) ?_
    refine wi_iand (e := 0) (nx := 22) (r1 := 0) (r2 := 0) (r3 := 0) rfl (by decide) ?_
    refine wr_addL (2) (nx := 23) (r1 := 0) (r2 := 0) (r3 := 0) rfl (by decide) ?_
    refine wi_istore_n (i := 0) (e := 2) (lo2 := [(0, vi 2)]) (nx := 24) (r1 := 0) (r2 := 0) (r3 := 0) rfl rfl ?_
    refine wi_iload_n (i := 0) (e := 2) (nx := 25) (r1 := 0) (r2 := 0) (r3 := 0) rfl rfl ?_
    refine wi_iload_n (i := 0) (e := 2) (nx := 26) (r1 := 0) (r2 := 0) (r3 := 0) rfl rfl ?_
    refine wi_iconst (n := 4) (nx := 27) (r1 := 0) (r2 := 0) (r3 := 0) rfl ?_
    refine wr_iushrL 0 (nx := 28) (r1 := 0) (r2 := 0) (r3 := 0) rfl (by decide) ?_
    refine wr_addL (2) (nx := 29) (r1 := 0) (r2 := 0) (r3 := 0) rfl (by decide) ?_
    refine wi_ldc_w (e := 252645135) (nx := 32) (r1 := 0) (r2 := 252645135) (r3 := 0) rfl (by decide) ?_
    refine wi_iand (e := 2) (nx := 33) (r1 := 0) (r2 := 0) (r3 := 0) rfl (by decide) ?_
    refine wi_istore_n (i := 0) (e := 2) (lo2 := [(0, vi 2)]) (nx := 34) (r1 := 0) (r2 := 0) (r3 := 0) rfl rfl ?_
    refine wi_iload_n (i := 0) (e := 2) (nx := 35) (r1 := 0) (r2 := 0) (r3 := 0) rfl rfl ?_
    refine wi_iload_n (i := 0) (e := 2) (nx := 36) (r1 := 0) (r2 := 0) (r3 := 0) rfl rfl ?_
    refine wi_bipush (n := 8) (nx := 38) (r1 := 0) (r2 := 0) (r3 := 0) rfl (by decide) ?_
    refine wr_iushrL 0 (nx := 39) (r1 := 0) (r2 := 0) (r3 := 0) rfl (by decide) ?_
    refine wr_addL (2) (nx := 40) (r1 := 0) (r2 := 0) (r3 := 0) rfl (by decide) ?_
    refine wi_istore_n (i := 0) (e := 2) (lo2 := [(0, vi 2)]) (nx := 41) (r1 := 0) (r2 := 0) (r3 := 0) rfl rfl ?_
    refine wi_iload_n (i := 0) (e := 2) (nx := 42) (r1 := 0) (r2 := 0) (r3 := 0) rfl rfl ?_
    refine wi_iload_n (i := 0) (e := 2) (nx := 43) (r1 := 0) (r2 := 0) (r3 := 0) rfl rfl ?_
    refine wi_bipush (n := 16) (nx := 45) (r1 := 0) (r2 := 0) (r3 := 0) rfl (by decide) ?_
    refine wr_iushrL 0 (nx := 46) (r1 := 0) (r2 := 0) (r3 := 0) rfl (by decide) ?_
    refine wr_addL (2) (nx := 47) (r1 := 0) (r2 := 0) (r3 := 0) rfl (by decide) ?_
    refine wi_istore_n (i := 0) (e := 2) (lo2 := [(0, vi 2)]) (nx := 48) (r1 := 0) (r2 := 0) (r3 := 0) rfl rfl ?_
    refine wi_iload_n (i := 0) (e := 2) (nx := 49) (r1 := 0) (r2 := 0) (r3 := 0) rfl rfl ?_
    refine wi_bipush (n := 63) (nx := 51) (r1 := 0) (r2 := 0) (r3 := 0) rfl (by decide) ?_
    refine wi_iand (e := 2) (nx := 52) (r1 := 0) (r2 := 0) (r3 := 0) rfl (by decide) ?_
    refine wi_ireturn (nx := 53) (r1 := 0) (r2 := 0) (r3 := 0) rfl rfl ?_
    exact k 2 (by omega) (show 0 ≤ 2 ∧ 2 ≤ 11 by omega) (by decide)
  ·
    refine wi_iload_n (i := 0) (e := 7) (nx := 1) (r1 := 0) (r2 := 0) (r3 := 0) rfl rfl ?_
    refine wi_iload_n (i := 0) (e := 7) (nx := 2) (r1 := 0) (r2 := 0) (r3 := 0) rfl rfl ?_
    refine wi_iconst (n := 1) (nx := 3) (r1 := 0) (r2 := 0) (r3 := 0) rfl ?_
    refine wr_iushrL 3 (nx := 4) (r1 := 0) (r2 := 0) (r3 := 0) rfl (by decide) ?_
    refine wi_ldc_w (e := 1431655765) (nx := 7) (r1 := 0) (r2 := 1431655765) (r3 := 0) rfl (by decide) ?_
    refine wi_iand (e := 1) (nx := 8) (r1 := 0) (r2 := 0) (r3 := 0) rfl (by decide) ?_
    refine wr_subL (6) (nx := 9) (r1 := 0) (r2 := 0) (r3 := 0) rfl (by decide) ?_
    refine wi_istore_n (i := 0) (e := 6) (lo2 := [(0, vi 6)]) (nx := 10) (r1 := 0) (r2 := 0) (r3 := 0) rfl rfl ?_
    refine wi_iload_n (i := 0) (e := 6) (nx := 11) (r1 := 0) (r2 := 0) (r3 := 0) rfl rfl ?_
    refine wi_ldc_w (e := 858993459) (nx := 14) (r1 := 0) (r2 := 858993459) (r3 := 0) rfl (by decide) ?_
    refine wi_iand (e := 2) (nx := 15) (r1 := 0) (r2 := 0) (r3 := 0) rfl (by decide) ?_
    refine wi_iload_n (i := 0) (e := 6) (nx := 16) (r1 := 0) (r2 := 0) (r3 := 0) rfl rfl ?_
    refine wi_iconst (n := 2) (nx := 17) (r1 := 0) (r2 := 0) (r3 := 0) rfl ?_
    refine wr_iushrL 1 (nx := 18) (r1 := 0) (r2 := 0) (r3 := 0) rfl (by decide) ?_
    refine wi_ldc_w (e := 858993459) (nx := 21) (r1 := 0) (r2 := 858993459) (r3 := 0) rfl (by decide) ?_
    refine wi_iand (e := 1) (nx := 22) (r1 := 0) (r2 := 0) (r3 := 0) rfl (by decide) ?_
    refine wr_addL (3) (nx := 23) (r1 := 0) (r2 := 0) (r3 := 0) rfl (by decide) ?_
    refine wi_istore_n (i := 0) (e := 3) (lo2 := [(0, vi 3)]) (nx := 24) (r1 := 0) (r2 := 0) (r3 := 0) rfl rfl ?_
    refine wi_iload_n (i := 0) (e := 3) (nx := 25) (r1 := 0) (r2 := 0) (r3 := 0) rfl rfl ?_
    refine wi_iload_n (i := 0) (e := 3) (nx := 26) (r1 := 0) (r2 := 0) (r3 := 0) rfl rfl ?_
    refine wi_iconst (n := 4) (nx := 27) (r1 := 0) (r2 := 0) (r3 := 0) rfl ?_
    refine wr_iushrL 0 (nx := 28) (r1 := 0) (r2 := 0) (r3 := 0) rfl (by decide) ?_
    refine wr_addL (3) (nx := 29) (r1 := 0) (r2 := 0) (r3 := 0) rfl (by decide) ?_
    refine wi_ldc_w (e := 252645135) (nx := 32) (r1 := 0) (r2 := 252645135) (r3 := 0) rfl (by decide) ?_
    refine wi_iand (e := 3) (nx := 33) (r1 := 0) (r2 := 0) (r3 := 0) rfl (by decide) ?_
    refine wi_istore_n (i := 0) (e := 3) (lo2 := [(0, vi 3)]) (nx := 34) (r1 := 0) (r2 := 0) (r3 := 0) rfl rfl ?_
    refine wi_iload_n (i := 0) (e := 3) (nx := 35) (r1 := 0) (r2 := 0) (r3 := 0) rfl rfl ?_
    refine wi_iload_n (i := 0) (e := 3) (nx := 36) (r1 := 0) (r2 := 0) (r3 := 0) rfl rfl ?_
    refine wi_bipush (n := 8) (nx := 38) (r1 := 0) (r2 := 0) (r3 := 0) rfl (by decide) ?_
    refine wr_iushrL 0 (nx := 39) (r1 := 0) (r2 := 0) (r3 := 0) rfl (by decide) ?_
    refine wr_addL (3) (nx := 40) (r1 := 0) (r2 := 0) (r3 := 0) rfl (by decide) ?_
    refine wi_istore_n (i := 0) (e := 3) (lo2 := [(0, vi 3)]) (nx := 41) (r1 := 0) (r2 := 0) (r3 := 0) rfl rfl ?_
    refine wi_iload_n (i := 0) (e := 3) (nx := 42) (r1 := 0) (r2 := 0) (r3 := 0) rfl rfl ?_
    refine wi_iload_n (i := 0) (e := 3) (nx := 43) (r1 := 0) (r2 := 0) (r3 := 0) rfl rfl ?_
    refine wi_bipush (n := 16) (nx := 45) (r1 := 0) (r2 := 0) (r3 := 0) rfl (by decide) ?_
    refine wr_iushrL 0 (nx := 46) (r1 := 0) (r2 := 0) (r3 := 0) rfl (by decide) ?_
    refine wr_addL (3) (nx := 47) (r1 := 0) (r2 := 0) (r3 := 0) rfl (by decide) ?_
    refine wi_istore_n (i := 0) (e := 3) (lo2 := [(0, vi 3)]) (nx := 48) (r1 := 0) (r2 := 0) (r3 := 0) rfl rfl ?_
    refine wi_iload_n (i := 0) (e := 3) (nx := 49) (r1 := 0) (r2 := 0) (r3 := 0) rfl rfl ?_
    refine wi_bipush (n := 63) (nx := 51) (r1 := 0) (r2 := 0) (r3 := 0) rfl (by decide) ?_
    refine wi_iand (e := 3) (nx := 52) (r1 := 0) (r2 := 0) (r3 := 0) rfl (by decide) ?_
    refine wi_ireturn (nx := 53) (r1 := 0) (r2 := 0) (r3 := 0) rfl rfl ?_
    exact k 3 (by omega) (show 0 ≤ 3 ∧ 3 ≤ 11 by omega) (by decide)
  ·
    refine wi_iload_n (i := 0) (e := 15) (nx := 1) (r1 := 0) (r2 := 0) (r3 := 0) rfl rfl ?_
    refine wi_iload_n (i := 0) (e := 15) (nx := 2) (r1 := 0) (r2 := 0) (r3 := 0) rfl rfl ?_
    refine wi_iconst (n := 1) (nx := 3) (r1 := 0) (r2 := 0) (r3 := 0) rfl ?_
    refine wr_iushrL 7 (nx := 4) (r1 := 0) (r2 := 0) (r3 := 0) rfl (by decide) ?_
    refine wi_ldc_w (e := 1431655765) (nx := 7) (r1 := 0) (r2 := 1431655765) (r3 := 0) rfl (by decide) ?_
    refine wi_iand (e := 5) (nx := 8) (r1 := 0) (r2 := 0) (r3 := 0) rfl (by decide) ?_
    refine wr_subL (10) (nx := 9) (r1 := 0) (r2 := 0) (r3 := 0) rfl (by decide) ?_
    refine wi_istore_n (i := 0) (e := 10) (lo2 := [(0, vi 10)]) (nx := 10) (r1 := 0) (r2 := 0) (r3 := 0) rfl rfl ?_
    refine wi_iload_n (i := 0) (e := 10) (nx := 11) (r1 := 0) (r2 := 0) (r3 := 0) rfl rfl ?_
    refine wi_ldc_w (e := 858993459) (nx := 14) (r1 := 0) (r2 := 858993459) (r3 := 0) rfl (by decide) ?_
    refine wi_iand (e := 2) (nx := 15) (r1 := 0) (r2 := 0) (r3 := 0) rfl (by decide) ?_
    refine wi_iload_n (i := 0) (e := 10) (nx := 16) (r1 := 0) (r2 := 0) (r3 := 0) rfl rfl ?_
    refine wi_iconst (n := 2) (nx := 17) (r1 := 0) (r2 := 0) (r3 := 0) rfl ?_
    refine wr_iushrL 2 (nx := 18) (r1 := 0) (r2 := 0) (r3 := 0) rfl (by decide) ?_
    refine wi_ldc_w (e := 858993459) (nx := 21) (r1 := 0) (r2 := 858993459) (r3 := 0) rfl (by decide) ?_
    refine wi_iand (e := 2) (nx := 22) (r1 := 0) (r2 := 0) (r3 := 0) rfl (by decide) ?_
    refine wr_addL (4) (nx := 23) (r1 := 0) (r2 := 0) (r3 := 0) rfl (by decide) ?_
    refine wi_istore_n (i := 0) (e := 4) (lo2 := [(0, vi 4)]) (nx := 24) (r1 := 0) (r2 := 0) (r3 := 0) rfl rfl ?_
    refine wi_iload_n (i := 0) (e := 4) (nx := 25) (r1 := 0) (r2 := 0) (r3 := 0) rfl rfl ?_
    refine wi_iload_n (i := 0) (e := 4) (nx := 26) (r1 := 0) (r2 := 0) (r3 := 0) rfl rfl ?_
    refine wi_iconst (n := 4) (nx := 27) (r1 := 0) (r2 := 0) (r3 := 0) rfl ?_
    refine wr_iushrL 0 (nx := 28) (r1 := 0) (r2 := 0) (r3 := 0) rfl (by decide) ?_
    refine wr_addL (4) (nx := 29) (r1 := 0) (r2 := 0) (r3 := 0) rfl (by decide) ?_
    refine wi_ldc_w (e := 252645135) (nx := 32) (r1 := 0) (r2 := 252645135) (r3 := 0) rfl (by decide) ?_
    refine wi_iand (e := 4) (nx := 33) (r1 := 0) (r2 := 0) (r3 := 0) rfl (by decide) ?_
    refine wi_istore_n (i := 0) (e := 4) (lo2 := [(0, vi 4)]) (nx := 34) (r1 := 0) (r2 := 0) (r3 := 0) rfl rfl ?_
    refine wi_iload_n (i := 0) (e := 4) (nx := 35) (r1 := 0) (r2 := 0) (r3 := 0) rfl rfl ?_
    refine wi_iload_n (i := 0) (e := 4) (nx := 36) (r1 := 0) (r2 := 0) (r3 := 0) rfl rfl ?_
    refine wi_bipush (n := 8) (nx := 38) (r1 := 0) (r2 := 0) (r3 := 0) rfl (by decide) ?_
    refine wr_iushrL 0 (nx := 39) (r1 := 0) (r2 := 0) (r3 := 0) rfl (by decide) ?_
    refine wr_addL (4) (nx := 40) (r1 := 0) (r2 := 0) (r3 := 0) rfl (by decide) ?_
    refine wi_istore_n (i := 0) (e := 4) (lo2 := [(0, vi 4)]) (nx := 41) (r1 := 0) (r2 := 0) (r3 := 0) rfl rfl ?_
    refine wi_iload_n (i := 0) (e := 4) (nx := 42) (r1 := 0) (r2 := 0) (r3 := 0) rfl rfl ?_
    refine wi_iload_n (i := 0) (e := 4) (nx := 43) (r1 := 0) (r2 := 0) (r3 := 0) rfl rfl ?_
    refine wi_bipush (n := 16) (nx := 45) (r1 := 0) (r2 := 0) (r3 := 0) rfl (by decide) ?_
    refine wr_iushrL 0 (nx := 46) (r1 := 0) (r2 := 0) (r3 := 0) rfl (by decide) ?_
    refine wr_addL (4) (nx := 47) (r1 := 0) (r2 := 0) (r3 := 0) rfl (by decide) ?_
    refine wi_istore_n (i := 0) (e := 4) (lo2 := [(0, vi 4)]) (nx := 48) (r1 := 0) (r2 := 0) (r3 := 0) rfl rfl ?_
    refine wi_iload_n (i := 0) (e := 4) (nx := 49) (r1 := 0) (r2 := 0) (r3 := 0) rfl rfl ?_
    refine wi_bipush (n := 63) (nx := 51) (r1 := 0) (r2 := 0) (r3 := 0) rfl (by decide) ?_
    refine wi_iand (e := 4) (nx := 52) (r1 := 0) (r2 := 0) (r3 := 0) rfl (by decide) ?_
    refine wi_ireturn (nx := 53) (r1 := 0) (r2 := 0) (r3 := 0) rfl rfl ?_
    exact k 4 (by omega) (show 0 ≤ 4 ∧ 4 ≤ 11 by omega) (by decide)
  ·
    refine wi_iload_n (i := 0) (e := 31) (nx := 1) (r1 := 0) (r2 := 0) (r3 := 0) rfl rfl ?_
    refine wi_iload_n (i := 0) (e := 31) (nx := 2) (r1 := 0) (r2 := 0) (r3 := 0) rfl rfl ?_
    refine wi_iconst (n := 1) (nx := 3) (r1 := 0) (r2 := 0) (r3 := 0) rfl ?_
    refine wr_iushrL 15 (nx := 4) (r1 := 0) (r2 := 0) (r3 := 0) rfl (by decide) ?_
    refine wi_ldc_w (e := 1431655765) (nx := 7) (r1 := 0) (r2 := 1431655765) (r3 := 0) rfl (by decide) ?_
    refine wi_iand (e := 5) (nx := 8) (r1 := 0) (r2 := 0) (r3 := 0) rfl (by decide) ?_
    refine wr_subL (26) (nx := 9) (r1 := 0) (r2 := 0) (r3 := 0) rfl (by decide) ?_
    refine wi_istore_n (i := 0) (e := 26) (lo2 := [(0, vi 26)]) (nx := 10) (r1 := 0) (r2 := 0) (r3 := 0) rfl rfl ?_
    refine wi_iload_n (i := 0) (e := 26) (nx := 11) (r1 := 0) (r2 := 0) (r3 := 0) rfl rfl ?_
    refine wi_ldc_w (e := 858993459) (nx := 14) (r1 := 0) (r2 := 858993459) (r3 := 0) rfl (by decide) ?_
    refine wi_iand (e := 18) (nx := 15) (r1 := 0) (r2 := 0) (r3 := 0) rfl (by decide) ?_
    refine wi_iload_n (i := 0) (e := 26) (nx := 16) (r1 := 0) (r2 := 0) (r3 := 0) rfl rfl ?_
    refine wi_iconst (n := 2) (nx := 17) (r1 := 0) (r2 := 0) (r3 := 0) rfl ?_
    refine wr_iushrL 6 (nx := 18) (r1 := 0) (r2 := 0) (r3 := 0) rfl (by decide) ?_
    refine wi_ldc_w (e := 858993459) (nx := 21) (r1 := 0) (r2 := 858993459) (r3 := 0) rfl (by decide) ?_
    refine wi_iand (e := 2) (nx := 22) (r1 := 0) (r2 := 0) (r3 := 0) rfl (by decide) ?_
    refine wr_addL (20) (nx := 23) (r1 := 0) (r2 := 0) (r3 := 0) rfl (by decide) ?_
    refine wi_istore_n (i := 0) (e := 20) (lo2 := [(0, vi 20)]) (nx := 24) (r1 := 0) (r2 := 0) (r3 := 0) rfl rfl ?_
    refine wi_iload_n (i := 0) (e := 20) (nx := 25) (r1 := 0) (r2 := 0) (r3 := 0) rfl rfl ?_
    refine wi_iload_n (i := 0) (e := 20) (nx := 26) (r1 := 0) (r2 := 0) (r3 := 0) rfl rfl ?_
    refine wi_iconst (n := 4) (nx := 27) (r1 := 0) (r2 := 0) (r3 := 0) rfl ?_
    refine wr_iushrL 1 (nx := 28) (r1 := 0) (r2 := 0) (r3 := 0) rfl (by decide) ?_
    refine wr_addL (21) (nx := 29) (r1 := 0) (r2 := 0) (r3 := 0) rfl (by decide) ?_
    refine wi_ldc_w (e := 252645135) (nx := 32) (r1 := 0) (r2 := 252645135) (r3 := 0) rfl (by decide) ?_
    refine wi_iand (e := 5) (nx := 33) (r1 := 0) (r2 := 0) (r3 := 0) rfl (by decide) ?_
    refine wi_istore_n (i := 0) (e := 5) (lo2 := [(0, vi 5)]) (nx := 34) (r1 := 0) (r2 := 0) (r3 := 0) rfl rfl ?_
    refine wi_iload_n (i := 0) (e := 5) (nx := 35) (r1 := 0) (r2 := 0) (r3 := 0) rfl rfl ?_
    refine wi_iload_n (i := 0) (e := 5) (nx := 36) (r1 := 0) (r2 := 0) (r3 := 0) rfl rfl ?_
    refine wi_bipush (n := 8) (nx := 38) (r1 := 0) (r2 := 0) (r3 := 0) rfl (by decide) ?_
    refine wr_iushrL 0 (nx := 39) (r1 := 0) (r2 := 0) (r3 := 0) rfl (by decide) ?_
    refine wr_addL (5) (nx := 40) (r1 := 0) (r2 := 0) (r3 := 0) rfl (by decide) ?_
    refine wi_istore_n (i := 0) (e := 5) (lo2 := [(0, vi 5)]) (nx := 41) (r1 := 0) (r2 := 0) (r3 := 0) rfl rfl ?_
    refine wi_iload_n (i := 0) (e := 5) (nx := 42) (r1 := 0) (r2 := 0) (r3 := 0) rfl rfl ?_
    refine wi_iload_n (i := 0) (e := 5) (nx := 43) (r1 := 0) (r2 := 0) (r3 := 0) rfl rfl ?_
    refine wi_bipush (n := 16) (nx := 45) (r1 := 0) (r2 := 0) (r3 := 0) rfl (by decide) ?_
    refine wr_iushrL 0 (nx := 46) (r1 := 0) (r2 := 0) (r3 := 0) rfl (by decide) ?_
    refine wr_addL (5) (nx := 47) (r1 := 0) (r2 := 0) (r3 := 0) rfl (by decide) ?_
    refine wi_istore_n (i := 0) (e := 5) (lo2 := [(0, vi 5)]) (nx := 48) (r1 := 0) (r2 := 0) (r3 := 0) rfl rfl ?_
    refine wi_iload_n (i := 0) (e := 5) (nx := 49) (r1 := 0) (r2 := 0) (r3 := 0) rfl rfl ?_
    refine wi_bipush (n := 63) (nx := 51) (r1 := 0) (r2 := 0) (r3 := 0) rfl (by decide) ?_
    refine wi_iand (e := 5) (nx := 52) (r1 := 0) (r2 := 0) (r3 := 0) rfl (by decide) ?_
    refine wi_ireturn (nx := 53) (r1 := 0) (r2 := 0) (r3 := 0) rfl rfl ?_
    exact k 5 (by omega) (show 0 ≤ 5 ∧ 5 ≤ 11 by omega) (by decide)
  ·
    refine wi_iload_n (i := 0) (e := 63) (nx := 1) (r1 := 0) (r2 := 0) (r3 := 0) rfl rfl ?_
    refine wi_iload_n (i := 0) (e := 63) (nx := 2) (r1 := 0) (r2 := 0) (r3 := 0) rfl rfl ?_
    refine wi_iconst (n := 1) (nx := 3) (r1 := 0) (r2 := 0) (r3 := 0) rfl ?_
    refine wr_iushrL 31 (nx := 4) (r1 := 0) (r2 := 0) (r3 := 0) rfl (by decide) ?_
    refine wi_ldc_w (e := 1431655765) (nx := 7) (r1 := 0) (r2 := 1431655765) (r3 := 0) rfl (by decide) ?_
    refine wi_iand (e := 21) (nx := 8) (r1 := 0) (r2 := 0) (r3 := 0) rfl (by decide) ?_
    refine wr_subL (42) (nx := 9) (r1 := 0) (r2 := 0) (r3 := 0) rfl (by decide) ?_
    refine wi_istore_n (i := 0) (e := 42) (lo2 := [(0, vi 42)]) (nx := 10) (r1 := 0) (r2 := 0) (r3 := 0) rfl rfl ?_
    refine wi_iload_n (i := 0) (e := 42) (nx := 11) (r1 := 0) (r2 := 0) (r3 := 0) rfl rfl ?_
    refine wi_ldc_w (e := 858993459) (nx := 14) (r1 := 0) (r2 := 858993459) (r3 := 0) rfl (by decide) ?_
    refine wi_iand (e := 34) (nx := 15) (r1 := 0) (r2 := 0) (r3 := 0) rfl (by decide) ?_
    refine wi_iload_n (i := 0) (e := 42) (nx := 16) (r1 := 0) (r2 := 0) (r3 := 0) rfl rfl ?_
    refine wi_iconst (n := 2) (nx := 17) (r1 := 0) (r2 := 0) (r3 := 0) rfl ?_
    refine wr_iushrL 10 (nx := 18) (r1 := 0) (r2 := 0) (r3 := 0) rfl (by decide) ?_
    refine wi_ldc_w (e := 858993459) (nx := 21) (r1 := 0) (r2 := 858993459) (r3 := 0) rfl (by decide) ?_
    refine wi_iand (e := 2) (nx := 22) (r1 := 0) (r2 := 0) (r3 := 0) rfl (by decide) ?_
    refine wr_addL (36) (nx := 23) (r1 := 0) (r2 := 0) (r3 := 0) rfl (by decide) ?_
    refine wi_istore_n (i := 0) (e := 36) (lo2 := [(0, vi 36)]) (nx := 24) (r1 := 0) (r2 := 0) (r3 := 0) rfl rfl ?_
    refine wi_iload_n (i := 0) (e := 36) (nx := 25) (r1 := 0) (r2 := 0) (r3 := 0) rfl rfl ?_
    refine wi_iload_n (i := 0) (e := 36) (nx := 26) (r1 := 0) (r2 := 0) (r3 := 0) rfl rfl ?_
    refine wi_iconst (n := 4) (nx := 27) (r1 := 0) (r2 := 0) (r3 := 0) rfl ?_
    refine wr_iushrL 2 (nx := 28) (r1 := 0) (r2 := 0) (r3 := 0) rfl (by decide) ?_
    refine wr_addL (38) (nx := 29) (r1 := 0) (r2 := 0) (r3 := 0) rfl (by decide) ?_
    refine wi_ldc_w (e := 252645135) (nx := 32) (r1 := 0) (r2 := 252645135) (r3 := 0) rfl (by decide) ?_
    refine wi_iand (e := 6) (nx := 33) (r1 := 0) (r2 := 0) (r3 := 0) rfl (by decide) ?_
    refine wi_istore_n (i := 0) (e := 6) (lo2 := [(0, vi 6)]) (nx := 34) (r1 := 0) (r2 := 0) (r3 := 0) rfl rfl ?_
    refine wi_iload_n (i := 0) (e := 6) (nx := 35) (r1 := 0) (r2 := 0) (r3 := 0) rfl rfl ?_
    refine wi_iload_n (i := 0) (e := 6) (nx := 36) (r1 := 0) (r2 := 0) (r3 := 0) rfl rfl ?_
    refine wi_bipush (n := 8) (nx := 38) (r1 := 0) (r2 := 0) (r3 := 0) rfl (by decide) ?_
    refine wr_iushrL 0 (nx := 39) (r1 := 0) (r2 := 0) (r3 := 0) rfl (by decide) ?_
    refine wr_addL (6) (nx := 40) (r1 := 0) (r2 := 0) (r3 := 0) rfl (by decide) ?_
    refine wi_istore_n (i := 0) (e := 6) (lo2 := [(0, vi 6)]) (nx := 41) (r1 := 0) (r2 := 0) (r3 := 0) rfl rfl ?_
    refine wi_iload_n (i := 0) (e := 6) (nx := 42) (r1 := 0) (r2 := 0) (r3 := 0) rfl rfl ?_
    refine wi_iload_n (i := 0) (e := 6) (nx := 43) (r1 := 0) (r2 := 0) (r3 := 0) rfl rfl ?_
    refine wi_bipush (n := 16) (nx := 45) (r1 := 0) (r2 := 0) (r3 := 0) rfl (by decide) ?_
    refine wr_iushrL 0 (nx := 46) (r1 := 0) (r2 := 0) (r3 := 0) rfl (by decide) ?_
    refine wr_addL (6) (nx := 47) (r1 := 0) (r2 := 0) (r3 := 0) rfl (by decide) ?_
    refine wi_istore_n (i := 0) (e := 6) (lo2 := [(0, vi 6)]) (nx := 48) (r1 := 0) (r2 := 0) (r3 := 0) rfl rfl ?_
    refine wi_iload_n (i := 0) (e := 6) (nx := 49) (r1 := 0) (r2 := 0) (r3 := 0) rfl rfl ?_
    refine wi_bipush (n := 63) (nx := 51) (r1 := 0) (r2 := 0) (r3 := 0) rfl (by decide) ?_
    refine wi_iand (e := 6) (nx := 52) (r1 := 0) (r2 := 0) (r3 := 0) rfl (by decide) ?_
    refine wi_ireturn (nx := 53) (r1 := 0) (r2 := 0) (r3 := 0) rfl rfl ?_
    exact k 6 (by omega) (show 0 ≤ 6 ∧ 6 ≤ 11 by omega) (by decide)
  ·
    refine wi_iload_n (i := 0) (e := 127) (nx := 1) (r1 := 0) (r2 := 0) (r3 := 0) rfl rfl ?_
    refine wi_iload_n (i := 0) (e := 127) (nx := 2) (r1 := 0) (r2 := 0) (r3 := 0) rfl rfl ?_
    refine wi_iconst (n := 1) (nx := 3) (r1 := 0) (r2 := 0) (r3 := 0) rfl ?_
    refine wr_iushrL 63 (nx := 4) (r1 := 0) (r2 := 0) (r3 := 0) rfl (by decide) ?_
    refine wi_ldc_w (e := 1431655765) (nx := 7) (r1 := 0) (r2 := 1431655765) (r3 := 0) rfl (by decide) ?_
    refine wi_iand (e := 21) (nx := 8) (r1 := 0) (r2 := 0) (r3 := 0) rfl (by decide) ?_
    refine wr_subL (106) (nx := 9) (r1 := 0) (r2 := 0) (r3 := 0) rfl (by decide) ?_
    refine wi_istore_n (i := 0) (e := 106) (lo2 := [(0, vi 106)]) (nx := 10) (r1 := 0) (r2 := 0) (r3 := 0) rfl rfl ?_
    refine wi_iload_n (i := 0) (e := 106) (nx := 11) (r1 := 0) (r2 := 0) (r3 := 0) rfl rfl ?_
    refine wi_ldc_w (e := 858993459) (nx := 14) (r1 := 0) (r2 := 858993459) (r3 := 0) rfl (by decide) ?_
    refine wi_iand (e := 34) (nx := 15) (r1 := 0) (r2 := 0) (r3 := 0) rfl (by decide) ?_
    refine wi_iload_n (i := 0) (e := 106) (nx := 16) (r1 := 0) (r2 := 0) (r3 := 0) rfl rfl ?_
    refine wi_iconst (n := 2) (nx := 17) (r1 := 0) (r2 := 0) (r3 := 0) rfl ?_
    refine wr_iushrL 26 (nx := 18) (r1 := 0) (r2 := 0) (r3 := 0) rfl (by decide) ?_
    refine wi_ldc_w (e := 858993459) (nx := 21) (r1 := 0) (r2 := 858993459) (r3 := 0) rfl (by decide) ?_
    refine wi_iand (e := 18) (nx := 22) (r1 := 0) (r2 := 0) (r3 := 0) rfl (by decide) ?_
    refine wr_addL (52) (nx := 23) (r1 := 0) (r2 := 0) (r3 := 0) rfl (by decide) ?_
    refine wi_istore_n (i := 0) (e := 52) (lo2 := [(0, vi 52)]) (nx := 24) (r1 := 0) (r2 := 0) (r3 := 0) rfl rfl ?_
    refine wi_iload_n (i := 0) (e := 52) (nx := 25) (r1 := 0) (r2 := 0) (r3 := 0) rfl rfl ?_
    refine wi_iload_n (i := 0) (e := 52) (nx := 26) (r1 := 0) (r2 := 0) (r3 := 0) rfl rfl ?_
    refine wi_iconst (n := 4) (nx := 27) (r1 := 0) (r2 := 0) (r3 := 0) rfl ?_
    refine wr_iushrL 3 (nx := 28) (r1 := 0) (r2 := 0) (r3 := 0) rfl (by decide) ?_
    refine wr_addL (55) (nx := 29) (r1 := 0) (r2 := 0) (r3 := 0) rfl (by decide) ?_
    refine wi_ldc_w (e := 252645135) (nx := 32) (r1 := 0) (r2 := 252645135) (r3 := 0) rfl (by decide) ?_
    refine wi_iand (e := 7) (nx := 33) (r1 := 0) (r2 := 0) (r3 := 0) rfl (by decide) ?_
    refine wi_istore_n (i := 0) (e := 7) (lo2 := [(0, vi 7)]) (nx := 34) (r1 := 0) (r2 := 0) (r3 := 0) rfl rfl ?_
    refine wi_iload_n (i := 0) (e := 7) (nx := 35) (r1 := 0) (r2 := 0) (r3 := 0) rfl rfl ?_
    refine wi_iload_n (i := 0) (e := 7) (nx := 36) (r1 := 0) (r2 := 0) (r3 := 0) rfl rfl ?_
    refine wi_bipush (n := 8) (nx := 38) (r1 := 0) (r2 := 0) (r3 := 0) rfl (by decide) ?_
    refine wr_iushrL 0 (nx := 39) (r1 := 0) (r2 := 0) (r3 := 0) rfl (by decide) ?_
    refine wr_addL (7) (nx := 40) (r1 := 0) (r2 := 0) (r3 := 0) rfl (by decide) ?_
    refine wi_istore_n (i := 0) (e := 7) (lo2 := [(0, vi 7)]) (nx := 41) (r1 := 0) (r2 := 0) (r3 := 0) rfl rfl ?_
    refine wi_iload_n (i := 0) (e := 7) (nx := 42) (r1 := 0) (r2 := 0) (r3 := 0) rfl rfl ?_
    refine wi_iload_n (i := 0) (e := 7) (nx := 43) (r1 := 0) (r2 := 0) (r3 := 0) rfl rfl ?_
    refine wi_bipush (n := 16) (nx := 45) (r1 := 0) (r2 := 0) (r3 := 0) rfl (by decide) ?_
    refine wr_iushrL 0 (nx := 46) (r1 := 0) (r2 := 0) (r3 := 0) rfl (by decide) ?_
    refine wr_addL (7) (nx := 47) (r1 := 0) (r2 := 0) (r3 := 0) rfl (by decide) ?_
    refine wi_istore_n (i := 0) (e := 7) (lo2 := [(0, vi 7)]) (nx := 48) (r1 := 0) (r2 := 0) (r3 := 0) rfl rfl ?_
    refine wi_iload_n (i := 0) (e := 7) (nx := 49) (r1 := 0) (r2 := 0) (r3 := 0) rfl rfl ?_
    refine wi_bipush (n := 63) (nx := 51) (r1 := 0) (r2 := 0) (r3 := 0) rfl (by decide) ?_
    refine wi_iand (e := 7) (nx := 52) (r1 := 0) (r2 := 0) (r3 := 0) rfl (by decide) ?_
    refine wi_ireturn (nx := 53) (r1 := 0) (r2 := 0) (r3 := 0) rfl rfl ?_
    exact k 7 (by omega) (show 0 ≤ 7 ∧ 7 ≤ 11 by omega) (by decide)
  ·
    refine wi_iload_n (i := 0) (e := 255) (nx := 1) (r1 := 0) (r2 := 0) (r3 := 0) rfl rfl ?_
    refine wi_iload_n (i := 0) (e := 255) (nx := 2) (r1 := 0) (r2 := 0) (r3 := 0) rfl rfl ?_
    refine wi_iconst (n := 1) (nx := 3) (r1 := 0) (r2 := 0) (r3 := 0) rfl ?_
    refine wr_iushrL 127 (nx := 4) (r1 := 0) (r2 := 0) (r3 := 0) rfl (by decide) ?_
    refine wi_ldc_w (e := 1431655765) (nx := 7) (r1 := 0) (r2 := 1431655765) (r3 := 0) rfl (by decide) ?_
    refine wi_iand (e := 85) (nx := 8) (r1 := 0) (r2 := 0) (r3 := 0) rfl (by decide) ?_
    refine wr_subL (170) (nx := 9) (r1 := 0) (r2 := 0) (r3 := 0) rfl (by decide) ?_
    refine wi_istore_n (i := 0) (e := 170) (lo2 := [(0, vi 170)]) (nx := 10) (r1 := 0) (r2 := 0) (r3 := 0) rfl rfl ?_
    refine wi_iload_n (i := 0) (e := 170) (nx := 11) (r1 := 0) (r2 := 0) (r3 := 0) rfl rfl ?_
    refine wi_ldc_w (e := 858993459) (nx := 14) (r1 := 0) (r2 := 858993459) (r3 := 0) rfl (by decide) ?_
    refine wi_iand (e := 34) (nx := 15) (r1 := 0) (r2 := 0) (r3 := 0) rfl (by decide) ?_
    refine wi_iload_n (i := 0) (e := 170) (nx := 16) (r1 := 0) (r2 := 0) (r3 := 0) rfl rfl ?_
    refine wi_iconst (n := 2) (nx := 17) (r1 := 0) (r2 := 0) (r3 := 0) rfl ?_
    refine wr_iushrL 42 (nx := 18) (r1 := 0) (r2 := 0) (r3 := 0) rfl (by decide) ?_
    refine wi_ldc_w (e := 858993459) (nx := 21) (r1 := 0) (r2 := 858993459) (r3 := 0) rfl (by decide) ?_
    refine wi_iand (e := 34) (nx := 22) (r1 := 0) (r2 := 0) (r3 := 0) rfl (by decide) ?_
    refine wr_addL (68) (nx := 23) (r1 := 0) (r2 := 0) (r3 := 0) rfl (by decide) ?_
    refine wi_istore_n (i := 0) (e := 68) (lo2 := [(0, vi 68)]) (nx := 24) (r1 := 0) (r2 := 0) (r3 := 0) rfl rfl ?_
    refine wi_iload_n (i := 0) (e := 68) (nx := 25) (r1 := 0) (r2 := 0) (r3 := 0) rfl rfl ?_
    refine wi_iload_n (i := 0) (e := 68) (nx := 26) (r1 := 0) (r2 := 0) (r3 := 0) rfl rfl ?_
    refine wi_iconst (n := 4) (nx := 27) (r1 := 0) (r2 := 0) (r3 := 0) rfl ?_
    refine wr_iushrL 4 (nx := 28) (r1 := 0) (r2 := 0) (r3 := 0) rfl (by decide) ?_
    refine wr_addL (72) (nx := 29) (r1 := 0) (r2 := 0) (r3 := 0) rfl (by decide) ?_
    refine wi_ldc_w (e := 252645135) (nx := 32) (r1 := 0) (r2 := 252645135) (r3 := 0) rfl (by decide) ?_
    refine wi_iand (e := 8) (nx := 33) (r1 := 0) (r2 := 0) (r3 := 0) rfl (by decide) ?_
    refine wi_istore_n (i := 0) (e := 8) (lo2 := [(0, vi 8)]) (nx := 34) (r1 := 0) (r2 := 0) (r3 := 0) rfl rfl ?_
    refine wi_iload_n (i := 0) (e := 8) (nx := 35) (r1 := 0) (r2 := 0) (r3 := 0) rfl rfl ?_
    refine wi_iload_n (i := 0) (e := 8) (nx := 36) (r1 := 0) (r2 := 0) (r3 := 0) rfl rfl ?_
    refine wi_bipush (n := 8) (nx := 38) (r1 := 0) (r2 := 0) (r3 := 0) rfl (by decide) ?_
    refine wr_iushrL 0 (nx := 39) (r1 := 0) (r2 := 0) (r3 := 0) rfl (by decide) ?_
    refine wr_addL (8) (nx := 40) (r1 := 0) (r2 := 0) (r3 := 0) rfl (by decide) ?_
    refine wi_istore_n (i := 0) (e := 8) (lo2 := [(0, vi 8)]) (nx := 41) (r1 := 0) (r2 := 0) (r3 := 0) rfl rfl ?_
    refine wi_iload_n (i := 0) (e := 8) (nx := 42) (r1 := 0) (r2 := 0) (r3 := 0) rfl rfl ?_
    refine wi_iload_n (i := 0) (e := 8) (nx := 43) (r1 := 0) (r2 := 0) (r3 := 0) rfl rfl ?_
    refine wi_bipush (n := 16) (nx := 45) (r1 := 0) (r2 := 0) (r3 := 0) rfl (by decide) ?_
    refine wr_iushrL 0 (nx := 46) (r1 := 0) (r2 := 0) (r3 := 0) rfl (by decide) ?_
    refine wr_addL (8) (nx := 47) (r1 := 0) (r2 := 0) (r3 := 0) rfl (by decide) ?_
    refine wi_istore_n (i := 0) (e := 8) (lo2 := [(0, vi 8)]) (nx := 48) (r1 := 0) (r2 := 0) (r3 := 0) rfl rfl ?_
    refine wi_iload_n (i := 0) (e := 8) (nx := 49) (r1 := 0) (r2 := 0) (r3 := 0) rfl rfl ?_
    refine wi_bipush (n := 63) (nx := 51) (r1 := 0) (r2 := 0) (r3 := 0) rfl (by decide) ?_
    refine wi_iand (e := 8) (nx := 52) (r1 := 0) (r2 := 0) (r3 := 0) rfl (by decide) ?_
    refine wi_ireturn (nx := 53) (r1 := 0) (r2 := 0) (r3 := 0) rfl rfl ?_
    exact k 8 (by omega) (show 0 ≤ 8 ∧ 8 ≤ 11 by omega) (by decide)
  ·
    refine wi_iload_n (i := 0) (e := 511) (nx := 1) (r1 := 0) (r2 := 0) (r3 := 0) rfl rfl ?_
    refine wi_iload_n (i := 0) (e := 511) (nx := 2) (r1 := 0) (r2 := 0) (r3 := 0) rfl rfl ?_
    refine wi_iconst (n := 1) (nx := 3) (r1 := 0) (r2 := 0) (r3 := 0) rfl ?_
    refine wr_iushrL 255 (nx := 4) (r1 := 0) (r2 := 0) (r3 := 0) rfl (by decide) ?_
    refine wi_ldc_w (e := 1431655765) (nx := 7) (r1 := 0) (r2 := 1431655765) (r3 := 0) rfl (by decide) ?_
    refine wi_iand (e := 85) (nx := 8) (r1 := 0) (r2 := 0) (r3 := 0) rfl (by decide) ?_
    refine wr_subL (426) (nx := 9) (r1 := 0) (r2 := 0) (r3 := 0) rfl (by decide) ?_
    refine wi_istore_n (i := 0) (e := 426) (lo2 := [(0, vi 426)]) (nx := 10) (r1 := 0) (r2 := 0) (r3 := 0) rfl rfl ?_
    refine wi_iload_n (i := 0) (e := 426) (nx := 11) (r1 := 0) (r2 := 0) (r3 := 0) rfl rfl ?_
    refine wi_ldc_w (e := 858993459) (nx := 14) (r1 := 0) (r2 := 858993459) (r3 := 0) rfl (by decide) ?_
    refine wi_iand (e := 290) (nx := 15) (r1 := 0) (r2 := 0) (r3 := 0) rfl (by decide) ?_
    refine wi_iload_n (i := 0) (e := 426) (nx := 16) (r1 := 0) (r2 := 0) (r3 := 0) rfl rfl ?_
    refine wi_iconst (n := 2) (nx := 17) (r1 := 0) (r2 := 0) (r3 := 0) rfl ?_
    refine wr_iushrL 106 (nx := 18) (r1 := 0) (r2 := 0) (r3 := 0) rfl (by decide) ?_
    refine wi_ldc_w (e := 858993459) (nx := 21) (r1 := 0) (r2 := 858993459) (r3 := 0) rfl (by decide) ?_
    refine wi_iand (e := 34) (nx := 22) (r1 := 0) (r2 := 0) (r3 := 0) rfl (by decide) ?_
    refine wr_addL (324) (nx := 23) (r1 := 0) (r2 := 0) (r3 := 0) rfl (by decide) ?_
    refine wi_istore_n (i := 0) (e := 324) (lo2 := [(0, vi 324)]) (nx := 24) (r1 := 0) (r2 := 0) (r3 := 0) rfl rfl ?_
    refine wi_iload_n (i := 0) (e := 324) (nx := 25) (r1 := 0) (r2 := 0) (r3 := 0) rfl rfl ?_
    refine wi_iload_n (i := 0) (e := 324) (nx := 26) (r1 := 0) (r2 := 0) (r3 := 0) rfl rfl ?_
    refine wi_iconst (n := 4) (nx := 27) (r1 := 0) (r2 := 0) (r3 := 0) rfl ?_
    refine wr_iushrL 20 (nx := 28) (r1 := 0) (r2 := 0) (r3 := 0) rfl (by decide) ?_
    refine wr_addL (344) (nx := 29) (r1 := 0) (r2 := 0) (r3 := 0) rfl (by decide) ?_
    refine wi_ldc_w (e := 252645135) (nx := 32) (r1 := 0) (r2 := 252645135) (r3 := 0) rfl (by decide) ?_
    refine wi_iand (e := 264) (nx := 33) (r1 := 0) (r2 := 0) (r3 := 0) rfl (by decide) ?_
    refine wi_istore_n (i := 0) (e := 264) (lo2 := [(0, vi 264)]) (nx := 34) (r1 := 0) (r2 := 0) (r3 := 0) rfl rfl ?_
    refine wi_iload_n (i := 0) (e := 264) (nx := 35) (r1 := 0) (r2 := 0) (r3 := 0) rfl rfl ?_
    refine wi_iload_n (i := 0) (e := 264) (nx := 36) (r1 := 0) (r2 := 0) (r3 := 0) rfl rfl ?_
    refine wi_bipush (n := 8) (nx := 38) (r1 := 0) (r2 := 0) (r3 := 0) rfl (by decide) ?_
    refine wr_iushrL 1 (nx := 39) (r1 := 0) (r2 := 0) (r3 := 0) rfl (by decide) ?_
    refine wr_addL (265) (nx := 40) (r1 := 0) (r2 := 0) (r3 := 0) rfl (by decide) ?_
    refine wi_istore_n (i := 0) (e := 265) (lo2 := [(0, vi 265)]) (nx := 41) (r1 := 0) (r2 := 0) (r3 := 0) rfl rfl ?_
    refine wi_iload_n (i := 0) (e := 265) (nx := 42) (r1 := 0) (r2 := 0) (r3 := 0) rfl rfl ?_
    refine wi_iload_n (i := 0) (e := 265) (nx := 43) (r1 := 0) (r2 := 0) (r3 := 0) rfl rfl ?_
    refine wi_bipush (n := 16) (nx := 45) (r1 := 0) (r2 := 0) (r3 := 0) rfl (by decide) ?_
    refine wr_iushrL 0 (nx := 46) (r1 := 0) (r2 := 0) (r3 := 0) rfl (by decide) ?_
    refine wr_addL (265) (nx := 47) (r1 := 0) (r2 := 0) (r3 := 0) rfl (by decide) ?_
    refine wi_istore_n (i := 0) (e := 265) (lo2 := [(0, vi 265)]) (nx := 48) (r1 := 0) (r2 := 0) (r3 := 0) rfl rfl ?_
    refine wi_iload_n (i := 0) (e := 265) (nx := 49) (r1 := 0) (r2 := 0) (r3 := 0) rfl rfl ?_
    refine wi_bipush (n := 63) (nx := 51) (r1 := 0) (r2 := 0) (r3 := 0) rfl (by decide) ?_
    refine wi_iand (e := 9) (nx := 52) (r1 := 0) (r2 := 0) (r3 := 0) rfl (by decide) ?_
    refine wi_ireturn (nx := 53) (r1 := 0) (r2 := 0) (r3 := 0) rfl rfl ?_
    exact k 9 (by omega) (show 0 ≤ 9 ∧ 9 ≤ 11 by omega) (by decide)
  ·
    refine wi_iload_n (i := 0) (e := 1023) (nx := 1) (r1 := 0) (r2 := 0) (r3 := 0) rfl rfl ?_
    refine wi_iload_n (i := 0) (e := 1023) (nx := 2) (r1 := 0) (r2 := 0) (r3 := 0) rfl rfl ?_
    refine wi_iconst (n := 1) (nx := 3) (r1 := 0) (r2 := 0) (r3 := 0) rfl ?_
    refine wr_iushrL 511 (nx := 4) (r1 := 0) (r2 := 0) (r3 := 0) rfl (by decide) ?_
    refine wi_ldc_w (e := 1431655765) (nx := 7) (r1 := 0) (r2 := 1431655765) (r3 := 0) rfl (by decide) ?_
    refine wi_iand (e := 341) (nx := 8) (r1 := 0) (r2 := 0) (r3 := 0) rfl (by decide) ?_
    refine wr_subL (682) (nx := 9) (r1 := 0) (r2 := 0) (r3 := 0) rfl (by decide) ?_
    refine wi_istore_n (i := 0) (e := 682) (lo2 := [(0, vi 682)]) (nx := 10) (r1 := 0) (r2 := 0) (r3 := 0) rfl rfl ?_
    refine wi_iload_n (i := 0) (e := 682) (nx := 11) (r1 := 0) (r2 := 0) (r3 := 0) rfl rfl ?_
    refine wi_ldc_w (e := 858993459) (nx := 14) (r1 := 0) (r2 := 858993459) (r3 := 0) rfl (by decide) ?_
    refine wi_iand (e := 546) (nx := 15) (r1 := 0) (r2 := 0) (r3 := 0) rfl (by decide) ?_
    refine wi_iload_n (i := 0) (e := 682) (nx := 16) (r1 := 0) (r2 := 0) (r3 := 0) rfl rfl ?_
    refine wi_iconst (n := 2) (nx := 17) (r1 := 0) (r2 := 0) (r3 := 0) rfl ?_
    refine wr_iushrL 170 (nx := 18) (r1 := 0) (r2 := 0) (r3 := 0) rfl (by decide) ?_
    refine wi_ldc_w (e := 858993459) (nx := 21) (r1 := 0) (r2 := 858993459) (r3 := 0) rfl (by decide) ?_
    refine wi_iand (e := 34) (nx := 22) (r1 := 0) (r2 := 0) (r3 := 0) rfl (by decide) ?_
    refine wr_addL (580) (nx := 23) (r1 := 0) (r2 := 0) (r3 := 0) rfl (by decide) ?_
    refine wi_istore_n (i := 0) (e := 580) (lo2 := [(0, vi 580)]) (nx := 24) (r1 := 0) (r2 := 0) (r3 := 0) rfl rfl ?_
    refine wi_iload_n (i := 0) (e := 580) (nx := 25) (r1 := 0) (r2 := 0) (r3 := 0) rfl rfl ?_
    refine wi_iload_n (i := 0) (e := 580) (nx := 26) (r1 := 0) (r2 := 0) (r3 := 0) rfl rfl ?_
    refine wi_iconst (n := 4) (nx := 27) (r1 := 0) (r2 := 0) (r3 := 0) rfl ?_
    refine wr_iushrL 36 (nx := 28) (r1 := 0) (r2 := 0) (r3 := 0) rfl (by decide) ?_
    refine wr_addL (616) (nx := 29) (r1 := 0) (r2 := 0) (r3 := 0) rfl (by decide) ?_
    refine wi_ldc_w (e := 252645135) (nx := 32) (r1 := 0) (r2 := 252645135) (r3 := 0) rfl (by decide) ?_
    refine wi_iand (e := 520) (nx := 33) (r1 := 0) (r2 := 0) (r3 := 0) rfl (by decide) ?_
    refine wi_istore_n (i := 0) (e := 520) (lo2 := [(0, vi 520)]) (nx := 34) (r1 := 0) (r2 := 0) (r3 := 0) rfl rfl ?_
    refine wi_iload_n (i := 0) (e := 520) (nx := 35) (r1 := 0) (r2 := 0) (r3 := 0) rfl rfl ?_
    refine wi_iload_n (i := 0) (e := 520) (nx := 36) (r1 := 0) (r2 := 0) (r3 := 0) rfl rfl ?_
    refine wi_bipush (n := 8) (nx := 38) (r1 := 0) (r2 := 0) (r3 := 0) rfl (by decide) ?_
    refine wr_iushrL 2 (nx := 39) (r1 := 0) (r2 := 0) (r3 := 0) rfl (by decide) ?_
    refine wr_addL (522) (nx := 40) (r1 := 0) (r2 := 0) (r3 := 0) rfl (by decide) ?_
    refine wi_istore_n (i := 0) (e := 522) (lo2 := [(0, vi 522)]) (nx := 41) (r1 := 0) (r2 := 0) (r3 := 0) rfl rfl ?_
    refine wi_iload_n (i := 0) (e := 522) (nx := 42) (r1 := 0) (r2 := 0) (r3 := 0) rfl rfl ?_
    refine wi_iload_n (i := 0) (e := 522) (nx := 43) (r1 := 0) (r2 := 0) (r3 := 0) rfl rfl ?_
    refine wi_bipush (n := 16) (nx := 45) (r1 := 0) (r2 := 0) (r3 := 0) rfl (by decide) ?_
    refine wr_iushrL 0 (nx := 46) (r1 := 0) (r2 := 0) (r3 := 0) rfl (by decide) ?_
    refine wr_addL (522) (nx := 47) (r1 := 0) (r2 := 0) (r3 := 0) rfl (by decide) ?_
    refine wi_istore_n (i := 0) (e := 522) (lo2 := [(0, vi 522)]) (nx := 48) (r1 := 0) (r2 := 0) (r3 := 0) rfl rfl ?_
    refine wi_iload_n (i := 0) (e := 522) (nx := 49) (r1 := 0) (r2 := 0) (r3 := 0) rfl rfl ?_
    refine wi_bipush (n := 63) (nx := 51) (r1 := 0) (r2 := 0) (r3 := 0) rfl (by decide) ?_
    refine wi_iand (e := 10) (nx := 52) (r1 := 0) (r2 := 0) (r3 := 0) rfl (by decide) ?_
    refine wi_ireturn (nx := 53) (r1 := 0) (r2 := 0) (r3 := 0) rfl rfl ?_
    exact k 10 (by omega) (show 0 ≤ 10 ∧ 10 ≤ 11 by omega) (by decide)
  ·
    refine wi_iload_n (i := 0) (e := 2047) (nx := 1) (r1 := 0) (r2 := 0) (r3 := 0) rfl rfl ?_
    refine wi_iload_n (i := 0) (e := 2047) (nx := 2) (r1 := 0) (r2 := 0) (r3 := 0) rfl rfl ?_
    refine wi_iconst (n := 1) (nx := 3) (r1 := 0) (r2 := 0) (r3 := 0) rfl ?_
    refine wr_iushrL 1023 (nx := 4) (r1 := 0) (r2 := 0) (r3 := 0) rfl (by decide) ?_
    refine wi_ldc_w (e := 1431655765) (nx := 7) (r1 := 0) (r2 := 1431655765) (r3 := 0) rfl (by decide) ?_
    refine wi_iand (e := 341) (nx := 8) (r1 := 0) (r2 := 0) (r3 := 0) rfl (by decide) ?_
    refine wr_subL (1706) (nx := 9) (r1 := 0) (r2 := 0) (r3 := 0) rfl (by decide) ?_
    refine wi_istore_n (i := 0) (e := 1706) (lo2 := [(0, vi 1706)]) (nx := 10) (r1 := 0) (r2 := 0) (r3 := 0) rfl rfl ?_
    refine wi_iload_n (i := 0) (e := 1706) (nx := 11) (r1 := 0) (r2 := 0) (r3 := 0) rfl rfl ?_
    refine wi_ldc_w (e := 858993459) (nx := 14) (r1 := 0) (r2 := 858993459) (r3 := 0) rfl (by decide) ?_
    refine wi_iand (e := 546) (nx := 15) (r1 := 0) (r2 := 0) (r3 := 0) rfl (by decide) ?_
    refine wi_iload_n (i := 0) (e := 1706) (nx := 16) (r1 := 0) (r2 := 0) (r3 := 0) rfl rfl ?_
    refine wi_iconst (n := 2) (nx := 17) (r1 := 0) (r2 := 0) (r3 := 0) rfl ?_
    refine wr_iushrL 426 (nx := 18) (r1 := 0) (r2 := 0) (r3 := 0) rfl (by decide) ?_
    refine wi_ldc_w (e := 858993459) (nx := 21) (r1 := 0) (r2 := 858993459) (r3 := 0) rfl (by decide) ?_
    refine wi_iand (e := 290) (nx := 22) (r1 := 0) (r2 := 0) (r3 := 0) rfl (by decide) ?_
    refine wr_addL (836) (nx := 23) (r1 := 0) (r2 := 0) (r3 := 0) rfl (by decide) ?_
    refine wi_istore_n (i := 0) (e := 836) (lo2 := [(0, vi 836)]) (nx := 24) (r1 := 0) (r2 := 0) (r3 := 0) rfl rfl ?_
    refine wi_iload_n (i := 0) (e := 836) (nx := 25) (r1 := 0) (r2 := 0) (r3 := 0) rfl rfl ?_
    refine wi_iload_n (i := 0) (e := 836) (nx := 26) (r1 := 0) (r2 := 0) (r3 := 0) rfl rfl ?_
    refine wi_iconst (n := 4) (nx := 27) (r1 := 0) (r2 := 0) (r3 := 0) rfl ?_
    refine wr_iushrL 52 (nx := 28) (r1 := 0) (r2 := 0) (r3 := 0) rfl (by decide) ?_
    refine wr_addL (888) (nx := 29) (r1 := 0) (r2 := 0) (r3 := 0) rfl (by decide) ?_
    refine wi_ldc_w (e := 252645135) (nx := 32) (r1 := 0) (r2 := 252645135) (r3 := 0) rfl (by decide) ?_
    refine wi_iand (e := 776) (nx := 33) (r1 := 0) (r2 := 0) (r3 := 0) rfl (by decide) ?_
    refine wi_istore_n (i := 0) (e := 776) (lo2 := [(0, vi 776)]) (nx := 34) (r1 := 0) (r2 := 0) (r3 := 0) rfl rfl ?_
    refine wi_iload_n (i := 0) (e := 776) (nx := 35) (r1 := 0) (r2 := 0) (r3 := 0) rfl rfl ?_
    refine wi_iload_n (i := 0) (e := 776) (nx := 36) (r1 := 0) (r2 := 0) (r3 := 0) rfl rfl ?_
    refine wi_bipush (n := 8) (nx := 38) (r1 := 0) (r2 := 0) (r3 := 0) rfl (by decide) ?_
    refine wr_iushrL 3 (nx := 39) (r1 := 0) (r2 := 0) (r3 := 0) rfl (by decide) ?_
    refine wr_addL (779) (nx := 40) (r1 := 0) (r2 := 0) (r3 := 0) rfl (by decide) ?_
    refine wi_istore_n (i := 0) (e := 779) (lo2 := [(0, vi 779)]) (nx := 41) (r1 := 0) (r2 := 0) (r3 := 0) rfl rfl ?_
    refine wi_iload_n (i := 0) (e := 779) (nx := 42) (r1 := 0) (r2 := 0) (r3 := 0) rfl rfl ?_
    refine wi_iload_n (i := 0) (e := 779) (nx := 43) (r1 := 0) (r2 := 0) (r3 := 0) rfl rfl ?_
    refine wi_bipush (n := 16) (nx := 45) (r1 := 0) (r2 := 0) (r3 := 0) rfl (by decide) ?_
    refine wr_iushrL 0 (nx := 46) (r1 := 0) (r2 := 0) (r3 := 0) rfl (by decide) ?_
    refine wr_addL (779) (nx := 47) (r1 := 0) (r2 := 0) (r3 := 0) rfl (by decide) ?_
    refine wi_istore_n (i := 0) (e := 779) (lo2 := [(0, vi 779)]) (nx := 48) (r1 := 0) (r2 := 0) (r3 := 0) rfl rfl ?_
    refine wi_iload_n (i := 0) (e := 779) (nx := 49) (r1 := 0) (r2 := 0) (r3 := 0) rfl rfl ?_
    refine wi_bipush (n := 63) (nx := 51) (r1 := 0) (r2 := 0) (r3 := 0) rfl (by decide) ?_
    refine wi_iand (e := 11) (nx := 52) (r1 := 0) (r2 := 0) (r3 := 0) rfl (by decide) ?_
    refine wi_ireturn (nx := 53) (r1 := 0) (r2 := 0) (r3 := 0) rfl rfl ?_
    exact k 11 (by omega) (show 0 ≤ 11 ∧ 11 ≤ 11 by omega) (by decide)
-- method 115: Exchange.firstJob(III)I
set_option maxRecDepth 100000 in
set_option maxHeartbeats 100000000 in
theorem ct_115_63 {L : Nat} {xs : Nat → Int32} {d b c : Nat} {h : hp} {cr : Nat → Nat → Option Nat} {Q : hp_Q} (hcr : CR cr)  (g : GI h) (a0 : Int) (a1 : Int) (a2 : Int) (q0_ : -1 ≤ a0 ∧ a0 ≤ 4) (q1_ : 0 ≤ a1 ∧ a1 ≤ 11) (q2_ : 0 ≤ a2 ∧ a2 ≤ 4095) (pp0 : a1 < h 63 4) (pp1 : h 63 4 ≤ 12) (xq0 : XJp (xC h) (xB h) (xK h) (h 65)) (k : ∀ (z0 : Int), (-1 ≤ z0 ∧ z0 ≤ 11) → (-1 ≤ z0 ∧ z0 ≤ 11) → (0 ≤ a0 ∨ z0 = -1) → (0 ≤ a0 → z0 = xj (xC h) (xB h) (xK h) (h 3 9) a1.toNat a0 a2.toNat) → Q (.inl (some (vi z0))) (hp_w h cr) b c) : wp (md_xa (L, xs)) (d + 1) 115 (0, [(0, .ref 63), (1, vi a0), (2, vi a1), (3, vi a2)], [], hp_w h cr, b, c) Q := by
  have F0 : FR [] h h := FR.refl
  have b1 := gi_b (lo := -12) (hi := 12) g 63 4 rfl
  refine wi_iload_n (i := 1) (e := a0) (nx := 1) (r1 := 0) (r2 := 0) (r3 := 0) rfl rfl ?_
  refine wi_if (cd := .lt) (nx := 4) (r1 := 19) (r2 := 0) (r3 := 0) rfl (by omega) (fun (q2 : a0 < 0) => ?_) (fun (q2 : ¬ (a0 < 0)) => ?_)
  ·
    refine wi_iconst (n := (-1)) (nx := 20) (r1 := 0) (r2 := 0) (r3 := 0) rfl ?_
    refine wi_ireturn (nx := 21) (r1 := 0) (r2 := 0) (r3 := 0) rfl rfl ?_
    exact k (-1) (by omega) (show -1 ≤ (-1) ∧ (-1) ≤ 11 by omega) (show 0 ≤ a0 ∨ (-1) = -1 by omega) (fun e0 => by exfalso; omega)
  ·
    refine wi_iload_n (i := 1) (e := a0) (nx := 5) (r1 := 0) (r2 := 0) (r3 := 0) rfl rfl ?_
    refine wi_iconst (n := 5) (nx := 6) (r1 := 0) (r2 := 0) (r3 := 0) rfl ?_
    refine wi_icmp (cd := .ge) (nx := 9) (r1 := 19) (r2 := 0) (r3 := 0) rfl (by omega) (by omega) (fun (q3 : 5 ≤ a0) => by exfalso; omega) (fun (q3 : ¬ (5 ≤ a0)) => ?_)
    refine wi_iload_n (i := 2) (e := a1) (nx := 10) (r1 := 0) (r2 := 0) (r3 := 0) rfl rfl ?_
    refine wi_if (cd := .lt) (nx := 13) (r1 := 19) (r2 := 0) (r3 := 0) rfl (by omega) (fun (q4 : a1 < 0) => by exfalso; omega) (fun (q4 : ¬ (a1 < 0)) => ?_)
    refine wi_iload_n (i := 2) (e := a1) (nx := 14) (r1 := 0) (r2 := 0) (r3 := 0) rfl rfl ?_
    refine wi_bipush (n := 12) (nx := 16) (r1 := 0) (r2 := 0) (r3 := 0) rfl (by decide) ?_
    refine wi_icmp (cd := .lt) (nx := 19) (r1 := 21) (r2 := 0) (r3 := 0) rfl (by omega) (by omega) (fun (q5 : a1 < 12) => ?_) (fun (q5 : ¬ (a1 < 12)) => by exfalso; omega)
    refine wi_aload_n (i := 0) (x := 63) (nx := 22) (r1 := 0) (r2 := 0) (r3 := 0) rfl rfl ?_
    refine wr_gr (k0 := 63) (x := 65) (nx := 25) (r1 := 7) (r2 := 3) (r3 := 0) rfl rfl (by decide) rfl ⟨rfl, rfl⟩ rfl ?_
    refine wi_iload_n (i := 2) (e := a1) (nx := 26) (r1 := 0) (r2 := 0) (r3 := 0) rfl rfl ?_
    refine wi_iconst (n := 5) (nx := 27) (r1 := 0) (r2 := 0) (r3 := 0) rfl ?_
    refine wr_mul (nx := 28) (r1 := 0) (r2 := 0) (r3 := 0) rfl (fun e6 (fe6 : e6 = a1 * 5) => ?_)
    refine wi_iload_n (i := 1) (e := a0) (nx := 29) (r1 := 0) (r2 := 0) (r3 := 0) rfl rfl ?_
    refine wr_add (nx := 30) (r1 := 0) (r2 := 0) (r3 := 0) rfl (fun e7 (fe7 : e7 = e6 + a0) => ?_)
    obtain ⟨i8, ei8⟩ : ∃ q : Nat, e7 = (q : Int) := ⟨(e7).toNat, by omega⟩
    have b9 := gi_b (lo := -2147483648) (hi := 2147483647) g 65 i8 rfl
    refine wr_ia (k0 := 65) (a := e7) (f := i8) (x := h 65 i8) (nx := 31) (r1 := 0) (r2 := 0) (r3 := 0) rfl (by decide) rfl (by omega) (by omega) (by decide) rfl ?_
    refine wi_iload_n (i := 3) (e := a2) (nx := 32) (r1 := 0) (r2 := 0) (r3 := 0) rfl rfl ?_
    refine wi_iconst (n := (-1)) (nx := 33) (r1 := 0) (r2 := 0) (r3 := 0) rfl ?_
    refine wr_ixorM (nx := 34) (r1 := 0) (r2 := 0) (r3 := 0) rfl (by omega) (fun e10 (fe10 : e10 = -1 - a2) => ?_)
    have jx := xq0 (a1).toNat (by unfold xK; omega) (a0).toNat (by omega)
    rw [show 5 * (a1).toNat + (a0).toNat = i8 by omega, show (((a0).toNat : Nat) : Int) = a0 by omega] at jx
    have jk : xK h ≤ 12 := by unfold xK; omega
    have jl := Nat.lt_of_lt_of_le (@xk_lt (xsu (xC h) (xB h) (a1).toNat a0) (xK h)) (Nat.pow_le_pow_right (by decide) jk)
    have jb : 0 ≤ h 65 i8 ∧ h 65 i8 < 4096 := by rw [jx]; have h12 : 2 ^ 12 = 4096 := (by decide); omega
    refine wr_iandC a2 (by omega) (nx := 35) (r1 := 0) (r2 := 0) (r3 := 0) rfl (by omega) (by omega) (fun e11 (fe11 : 0 ≤ e11 ∧ e11 ≤ (h 65 i8)) ve11 => ?_)
    have fx : (e11).toNat = xk (xb (xC h) (xB h) (a1).toNat a0 (a2).toNat) (xK h) := xj_free jk (x := (h 65 i8).toNat) (by omega) (by omega) ve11
    refine wi_istore (i := 4) (e := e11) (lo2 := [(4, vi e11), (0, .ref 63), (1, vi a0), (2, vi a1), (3, vi a2)]) (nx := 37) (r1 := 0) (r2 := 0) (r3 := 0) rfl rfl ?_
    refine wi_iload (i := 4) (e := e11) (nx := 39) (r1 := 0) (r2 := 0) (r3 := 0) rfl rfl ?_
    refine wi_if (cd := .ne) (nx := 42) (r1 := 44) (r2 := 0) (r3 := 0) rfl (by omega) (fun (q12 : e11 ≠ 0) => ?_) (fun (q12 : ¬ (e11 ≠ 0)) => ?_)
    ·
      refine wi_iload (i := 4) (e := e11) (nx := 46) (r1 := 0) (r2 := 0) (r3 := 0) rfl rfl ?_
      refine wi_iload (i := 4) (e := e11) (nx := 48) (r1 := 0) (r2 := 0) (r3 := 0) rfl rfl ?_
      refine wr_negV (nx := 49) (r1 := 0) (r2 := 0) (r3 := 0) rfl (by omega) (fun e13 (fe13 : e13 = -e11) => ?_)
      refine wr_iandZ (x := e11) (y := e13) (by omega) (nx := 50) (r1 := 0) (r2 := 0) (r3 := 0) rfl (by omega) (fun e14 (fe14 : 1 ≤ e14 ∧ e14 ≤ 2048) ve14 => ?_)
      have zl := xz_ok (n := (e11).toNat) (by omega) (by omega)
      have zp := xz_lits zl.1 ve14
      refine wi_iconst (n := 1) (nx := 51) (r1 := 0) (r2 := 0) (r3 := 0) rfl ?_
      refine wr_sub (nx := 52) (r1 := 0) (r2 := 0) (r3 := 0) rfl (fun e15 (fe15 : e15 = e14 - 1) => ?_)
      refine wi_S (rest := []) (as := [vi e15]) (nx := 55) (r1 := 136) (r2 := 17) (r3 := 0) rfl rfl rfl (of_decide_eq_true rfl) rfl rfl (of_decide_eq_true rfl) (of_decide_eq_true rfl) ?_
      refine ct_136 hcr  g e15 (by omega) (show e15 = 0 ∨ e15 = 1 ∨ e15 = 3 ∨ e15 = 7 ∨ e15 = 15 ∨ e15 = 31 ∨ e15 = 63 ∨ e15 = 127 ∨ e15 = 255 ∨ e15 = 511 ∨ e15 = 1023 ∨ e15 = 2047 by omega) (fun z17  (fz17 : 0 ≤ z17 ∧ z17 ≤ 11) (p16_0 : 0 ≤ z17 ∧ z17 ≤ 11) y16_0 => ?_)
      refine wk_i ?_
      have zz : (z17).toNat = xz (e11).toNat := xz_inj (by omega) zl.1 (by rw [y16_0]; omega)
      clear zp
      refine wi_istore (i := 5) (e := z17) (lo2 := [(5, vi z17), (4, vi e11), (0, .ref 63), (1, vi a0), (2, vi a1), (3, vi a2)]) (nx := 57) (r1 := 0) (r2 := 0) (r3 := 0) rfl rfl ?_
      refine wi_iload (i := 5) (e := z17) (nx := 59) (r1 := 0) (r2 := 0) (r3 := 0) rfl rfl ?_
      refine wi_iload_n (i := 2) (e := a1) (nx := 60) (r1 := 0) (r2 := 0) (r3 := 0) rfl rfl ?_
      refine wr_sub (nx := 61) (r1 := 0) (r2 := 0) (r3 := 0) rfl (fun e18 (fe18 : e18 = z17 - a1) => ?_)
      refine wi_S (rest := []) (as := [vi e18]) (nx := 64) (r1 := 134) (r2 := 17) (r3 := 0) rfl rfl rfl (of_decide_eq_true rfl) rfl rfl (of_decide_eq_true rfl) (of_decide_eq_true rfl) ?_
      refine wi_iload_n (i := 0) (e := e18) (nx := 1) (r1 := 0) (r2 := 0) (r3 := 0) rfl rfl ?_
      refine wi_if (cd := .ge) (nx := 4) (r1 := 9) (r2 := 0) (r3 := 0) rfl (by omega) (fun (q19 : 0 ≤ e18) => ?_) (fun (q19 : ¬ (0 ≤ e18)) => ?_)
      ·
        refine wi_iload_n (i := 0) (e := e18) (nx := 10) (r1 := 0) (r2 := 0) (r3 := 0) rfl rfl ?_
        refine wi_ireturn (nx := 11) (r1 := 0) (r2 := 0) (r3 := 0) rfl rfl ?_
        refine wk_i ?_
        refine wi_aload_n (i := 0) (x := 63) (nx := 65) (r1 := 0) (r2 := 0) (r3 := 0) rfl rfl ?_
        refine wr_gr (k0 := 63) (x := 3) (nx := 68) (r1 := 7) (r2 := 0) (r3 := 0) rfl rfl (by decide) rfl ⟨rfl, rfl⟩ rfl ?_
        have b20 := gi_b (lo := -2147483648) (hi := 2147483647) g 3 9 rfl
        refine wr_gi0 (k0 := 3) (x := h 3 9) (nx := 71) (r1 := 2) (r2 := 9) (r3 := 0) rfl rfl (by decide) rfl ⟨rfl, rfl⟩ rfl rfl ?_
        refine wi_icmp (cd := .gt) (nx := 74) (r1 := 79) (r2 := 0) (r3 := 0) rfl (by omega) (by omega) (fun (q21 : (h 3 9) < e18) => ?_) (fun (q21 : ¬ ((h 3 9) < e18)) => ?_)
        ·
          refine wi_iconst (n := (-1)) (nx := 80) (r1 := 0) (r2 := 0) (r3 := 0) rfl ?_
          refine wi_ireturn (nx := 81) (r1 := 0) (r2 := 0) (r3 := 0) rfl rfl ?_
          exact k (-1) (by omega) (show -1 ≤ (-1) ∧ (-1) ≤ 11 by omega) (show 0 ≤ a0 ∨ (-1) = -1 by omega) (fun _ => (xj_far (by rw [← fx]; omega) (z := (z17).toNat) (by rw [zz, fx]) (by omega)).symm)
        ·
          refine wi_iload (i := 5) (e := z17) (nx := 76) (r1 := 0) (r2 := 0) (r3 := 0) rfl rfl ?_
          refine wi_goto (nx := 79) (r1 := 80) (r2 := 0) (r3 := 0) rfl ?_
          refine wi_ireturn (nx := 81) (r1 := 0) (r2 := 0) (r3 := 0) rfl rfl ?_
          exact k z17 (by omega) (show -1 ≤ z17 ∧ z17 ≤ 11 by omega) (show 0 ≤ a0 ∨ z17 = -1 by omega) (fun _ => by rw [xj_some (by rw [← fx]; omega) (z := (z17).toNat) (by rw [zz, fx]) (by omega) (by omega)]; omega)
      ·
        refine wi_iload_n (i := 0) (e := e18) (nx := 5) (r1 := 0) (r2 := 0) (r3 := 0) rfl rfl ?_
        refine wr_negV (nx := 6) (r1 := 0) (r2 := 0) (r3 := 0) rfl (by omega) (fun e20 (fe20 : e20 = -e18) => ?_)
        refine wi_goto (nx := 9) (r1 := 10) (r2 := 0) (r3 := 0) rfl ?_
        refine wi_ireturn (nx := 11) (r1 := 0) (r2 := 0) (r3 := 0) rfl rfl ?_
        refine wk_i ?_
        refine wi_aload_n (i := 0) (x := 63) (nx := 65) (r1 := 0) (r2 := 0) (r3 := 0) rfl rfl ?_
        refine wr_gr (k0 := 63) (x := 3) (nx := 68) (r1 := 7) (r2 := 0) (r3 := 0) rfl rfl (by decide) rfl ⟨rfl, rfl⟩ rfl ?_
        have b21 := gi_b (lo := -2147483648) (hi := 2147483647) g 3 9 rfl
        refine wr_gi0 (k0 := 3) (x := h 3 9) (nx := 71) (r1 := 2) (r2 := 9) (r3 := 0) rfl rfl (by decide) rfl ⟨rfl, rfl⟩ rfl rfl ?_
        refine wi_icmp (cd := .gt) (nx := 74) (r1 := 79) (r2 := 0) (r3 := 0) rfl (by omega) (by omega) (fun (q22 : (h 3 9) < e20) => ?_) (fun (q22 : ¬ ((h 3 9) < e20)) => ?_)
        ·
          refine wi_iconst (n := (-1)) (nx := 80) (r1 := 0) (r2 := 0) (r3 := 0) rfl ?_
          refine wi_ireturn (nx := 81) (r1 := 0) (r2 := 0) (r3 := 0) rfl rfl ?_
          exact k (-1) (by omega) (show -1 ≤ (-1) ∧ (-1) ≤ 11 by omega) (show 0 ≤ a0 ∨ (-1) = -1 by omega) (fun _ => (xj_far (by rw [← fx]; omega) (z := (z17).toNat) (by rw [zz, fx]) (by omega)).symm)
        ·
          refine wi_iload (i := 5) (e := z17) (nx := 76) (r1 := 0) (r2 := 0) (r3 := 0) rfl rfl ?_
          refine wi_goto (nx := 79) (r1 := 80) (r2 := 0) (r3 := 0) rfl ?_
          refine wi_ireturn (nx := 81) (r1 := 0) (r2 := 0) (r3 := 0) rfl rfl ?_
          exact k z17 (by omega) (show -1 ≤ z17 ∧ z17 ≤ 11 by omega) (show 0 ≤ a0 ∨ z17 = -1 by omega) (fun _ => by rw [xj_some (by rw [← fx]; omega) (z := (z17).toNat) (by rw [zz, fx]) (by omega) (by omega)]; omega)
    ·
      refine wi_iconst (n := (-1)) (nx := 43) (r1 := 0) (r2 := 0) (r3 := 0) rfl ?_
      refine wi_ireturn (nx := 44) (r1 := 0) (r2 := 0) (r3 := 0) rfl rfl ?_
      exact k (-1) (by omega) (show -1 ≤ (-1) ∧ (-1) ≤ 11 by omega) (show 0 ≤ a0 ∨ (-1) = -1 by omega) (fun _ => (xj_none (by rw [← fx]; omega)).symm)
-- method 116: Exchange.fewestOf(II)I
set_option maxRecDepth 100000 in
set_option maxHeartbeats 100000000 in
theorem ct_116 {L : Nat} {xs : Nat → Int32} {d b c : Nat} {h : hp} {cr : Nat → Nat → Option Nat} {Q : hp_Q} (hcr : CR cr)  (g : GI h) (a0 : Int) (a1 : Int) (q0_ : 0 ≤ a0 ∧ a0 ≤ 1048575) (q1_ : 0 ≤ a1 ∧ a1 ≤ 4)  (k : ∀ (z0 : Int), (0 ≤ z0 ∧ z0 ≤ 15) → (0 ≤ z0 ∧ z0 ≤ 15) → (z0 = ((a0.toNat / 16 ^ a1.toNat % 16 : Nat) : Int)) → Q (.inl (some (vi z0))) (hp_w h cr) b c) : wp (md_xa (L, xs)) d 116 (0, [(0, vi a0), (1, vi a1)], [], hp_w h cr, b, c) Q := by
  have F0 : FR [] h h := FR.refl
  refine wi_iload_n (i := 0) (e := a0) (nx := 1) (r1 := 0) (r2 := 0) (r3 := 0) rfl rfl ?_
  refine wi_iload_n (i := 1) (e := a1) (nx := 2) (r1 := 0) (r2 := 0) (r3 := 0) rfl rfl ?_
  refine wi_iconst (n := 4) (nx := 3) (r1 := 0) (r2 := 0) (r3 := 0) rfl ?_
  refine wr_mul (nx := 4) (r1 := 0) (r2 := 0) (r3 := 0) rfl (fun e1 (fe1 : e1 = a1 * 4) => ?_)
  refine wr_ishrN (x := a0) (y := e1) (nx := 5) (r1 := 0) (r2 := 0) (r3 := 0) rfl (by omega) (by omega) (fun e2 (fe2 : 0 ≤ e2 ∧ e2 ≤ a0) ve2 => ?_)
  refine wi_bipush (n := 15) (nx := 7) (r1 := 0) (r2 := 0) (r3 := 0) rfl (by decide) ?_
  refine wr_iandN (x := e2) (y := 15) (nx := 8) (r1 := 0) (r2 := 0) (r3 := 0) rfl (by omega) (by omega) (fun e3 (fe3 : 0 ≤ e3 ∧ e3 ≤ e2 ∧ e3 ≤ 15) ve3 => ?_)
  have be3 : e3 = (((a0).toNat / 16 ^ (a1).toNat % 16 : Nat) : Int) := by rw [ve3, show (15 : Int).toNat = 2 ^ 4 - 1 from rfl, Nat.and_two_pow_sub_one_eq_mod, ve2, show (e1).toNat = (a1).toNat * 4 by omega, ← bt_16]; rfl
  refine wi_ireturn (nx := 9) (r1 := 0) (r2 := 0) (r3 := 0) rfl rfl ?_
  exact k e3 (by omega) (show 0 ≤ e3 ∧ e3 ≤ 15 by omega) be3
-- method 117: Exchange.fewestOfAll(I)I
set_option maxRecDepth 100000 in
set_option maxHeartbeats 100000000 in
theorem ct_117 {L : Nat} {xs : Nat → Int32} {d b c : Nat} {h : hp} {cr : Nat → Nat → Option Nat} {Q : hp_Q} (hcr : CR cr)  (g : GI h) (a0 : Int) (q0_ : 0 ≤ a0 ∧ a0 ≤ 1048575)  (k : ∀ (z0 : Int), (0 ≤ z0 ∧ z0 ≤ 15) → (0 ≤ z0 ∧ z0 ≤ 15) → (z0 = ((xm (fun c => a0.toNat / 16 ^ c % 16) : Nat) : Int)) → Q (.inl (some (vi z0))) (hp_w h cr) b c) : wp (md_xa (L, xs)) (d + 1) 117 (0, [(0, vi a0)], [], hp_w h cr, b, c) Q := by
  have F0 : FR [] h h := FR.refl
  refine wi_bipush (n := 15) (nx := 2) (r1 := 0) (r2 := 0) (r3 := 0) rfl (by decide) ?_
  refine wi_istore_n (i := 1) (e := 15) (lo2 := [(1, vi 15), (0, vi a0)]) (nx := 3) (r1 := 0) (r2 := 0) (r3 := 0) rfl rfl ?_
  refine wi_iconst (n := 0) (nx := 4) (r1 := 0) (r2 := 0) (r3 := 0) rfl ?_
  refine wi_istore_n (i := 2) (e := 0) (lo2 := [(2, vi 0), (1, vi 15), (0, vi a0)]) (nx := 5) (r1 := 0) (r2 := 0) (r3 := 0) rfl rfl ?_
  refine wp.lo (lo := [(0, vi a0), (1, vi 15), (2, vi 0)]) ⟨rfl, rfl, rfl, trivial⟩ rfl ?_
  refine wl_2 (fun x1 x2 h3 => h = h3 ∧ ((0 ≤ x1 ∧ x1 ≤ 15) ∧ (0 ≤ x2 ∧ x2 ≤ 5)) ∧ (x1 = ((xmq (fun c => a0.toNat / 16 ^ c % 16) (x2).toNat : Nat) : Int))) (fun x1 x2 h3 => ((5 : Int) + 1 - x2).toNat) (fun x1 x2 h3 => (5, [(0, vi a0), (1, vi x1), (2, vi x2)], [], hp_w h3 cr, b, c)) ?_ 15 0 h ⟨rfl, (show (0 ≤ 15 ∧ 15 ≤ 15) ∧ (0 ≤ 0 ∧ 0 ≤ 5) by omega), rfl⟩
  intro x1 x2 h3 ⟨e3, f3, X3_0⟩ I3
  subst e3
  refine wi_iload_n (i := 2) (e := x2) (nx := 6) (r1 := 0) (r2 := 0) (r3 := 0) rfl rfl ?_
  refine wi_iconst (n := 5) (nx := 7) (r1 := 0) (r2 := 0) (r3 := 0) rfl ?_
  refine wi_icmp (cd := .ge) (nx := 10) (r1 := 29) (r2 := 0) (r3 := 0) rfl (by omega) (by omega) (fun (q5 : 5 ≤ x2) => ?_) (fun (q5 : ¬ (5 ≤ x2)) => ?_)
  ·
    refine wi_iload_n (i := 1) (e := x1) (nx := 30) (r1 := 0) (r2 := 0) (r3 := 0) rfl rfl ?_
    refine wi_ireturn (nx := 31) (r1 := 0) (r2 := 0) (r3 := 0) rfl rfl ?_
    exact k x1 (by omega) (show 0 ≤ x1 ∧ x1 ≤ 15 by omega) (by have xh1 := X3_0; rw [show (x2).toNat = 5 by omega] at xh1; exact xh1)
  ·
    refine wi_iload_n (i := 1) (e := x1) (nx := 11) (r1 := 0) (r2 := 0) (r3 := 0) rfl rfl ?_
    refine wi_iload_n (i := 0) (e := a0) (nx := 12) (r1 := 0) (r2 := 0) (r3 := 0) rfl rfl ?_
    refine wi_iload_n (i := 2) (e := x2) (nx := 13) (r1 := 0) (r2 := 0) (r3 := 0) rfl rfl ?_
    refine wi_iconst (n := 4) (nx := 14) (r1 := 0) (r2 := 0) (r3 := 0) rfl ?_
    refine wr_mul (nx := 15) (r1 := 0) (r2 := 0) (r3 := 0) rfl (fun e6 (fe6 : e6 = x2 * 4) => ?_)
    refine wr_ishrN (x := a0) (y := e6) (nx := 16) (r1 := 0) (r2 := 0) (r3 := 0) rfl (by omega) (by omega) (fun e7 (fe7 : 0 ≤ e7 ∧ e7 ≤ a0) ve7 => ?_)
    refine wi_bipush (n := 15) (nx := 18) (r1 := 0) (r2 := 0) (r3 := 0) rfl (by decide) ?_
    refine wr_iandN (x := e7) (y := 15) (nx := 19) (r1 := 0) (r2 := 0) (r3 := 0) rfl (by omega) (by omega) (fun e8 (fe8 : 0 ≤ e8 ∧ e8 ≤ e7 ∧ e8 ≤ 15) ve8 => ?_)
    have be8 : e8 = (((a0).toNat / 16 ^ (x2).toNat % 16 : Nat) : Int) := by rw [ve8, show (15 : Int).toNat = 2 ^ 4 - 1 from rfl, Nat.and_two_pow_sub_one_eq_mod, ve7, show (e6).toNat = (x2).toNat * 4 by omega, ← bt_16]; rfl
    refine wi_S (rest := []) (as := [vi x1, vi e8]) (nx := 22) (r1 := 133) (r2 := 18) (r3 := 0) rfl rfl rfl (of_decide_eq_true rfl) rfl rfl (of_decide_eq_true rfl) (of_decide_eq_true rfl) ?_
    refine wi_iload_n (i := 0) (e := x1) (nx := 1) (r1 := 0) (r2 := 0) (r3 := 0) rfl rfl ?_
    refine wi_iload_n (i := 1) (e := e8) (nx := 2) (r1 := 0) (r2 := 0) (r3 := 0) rfl rfl ?_
    refine wi_icmp (cd := .gt) (nx := 5) (r1 := 9) (r2 := 0) (r3 := 0) rfl (by omega) (by omega) (fun (q9 : e8 < x1) => ?_) (fun (q9 : ¬ (e8 < x1)) => ?_)
    ·
      refine wi_iload_n (i := 1) (e := e8) (nx := 10) (r1 := 0) (r2 := 0) (r3 := 0) rfl rfl ?_
      refine wi_ireturn (nx := 11) (r1 := 0) (r2 := 0) (r3 := 0) rfl rfl ?_
      refine wk_i ?_
      refine wi_istore_n (i := 1) (e := e8) (lo2 := [(1, vi e8), (0, vi a0), (2, vi x2)]) (nx := 23) (r1 := 0) (r2 := 0) (r3 := 0) rfl rfl ?_
      refine wr_iinc (i := 2) (n := 1) (v := x2) (fun e10 => [(2, vi e10), (1, vi e8), (0, vi a0)]) (nx := 26) (r1 := 0) (r2 := 0) (r3 := 0) rfl rfl (fun _ => rfl) (fun e10 (fe10 : e10 = x2 + 1) => ?_)
      refine wi_goto (nx := 29) (r1 := 5) (r2 := 0) (r3 := 0) rfl ?_
      refine wp.lo (lo := [(0, vi a0), (1, vi e8), (2, vi e10)]) ⟨rfl, rfl, rfl, trivial⟩ rfl ?_
      exact I3 e8 e10 h ⟨rfl, (show (0 ≤ e8 ∧ e8 ≤ 15) ∧ (0 ≤ e10 ∧ e10 ≤ 5) by omega), (by
          have xh1 := X3_0
          rw [show (e10).toNat = (x2).toNat + 1 by omega]
          show e8 = ((min (xmq (fun c => a0.toNat / 16 ^ c % 16) (x2).toNat) (a0.toNat / 16 ^ (x2).toNat % 16) : Nat) : Int)
          omega)⟩ (show ((5 : Int) + 1 - e10).toNat < ((5 : Int) + 1 - x2).toNat by omega)
    ·
      refine wi_iload_n (i := 0) (e := x1) (nx := 6) (r1 := 0) (r2 := 0) (r3 := 0) rfl rfl ?_
      refine wi_goto (nx := 9) (r1 := 10) (r2 := 0) (r3 := 0) rfl ?_
      refine wi_ireturn (nx := 11) (r1 := 0) (r2 := 0) (r3 := 0) rfl rfl ?_
      refine wk_i ?_
      refine wi_istore_n (i := 1) (e := x1) (lo2 := [(1, vi x1), (0, vi a0), (2, vi x2)]) (nx := 23) (r1 := 0) (r2 := 0) (r3 := 0) rfl rfl ?_
      refine wr_iinc (i := 2) (n := 1) (v := x2) (fun e10 => [(2, vi e10), (1, vi x1), (0, vi a0)]) (nx := 26) (r1 := 0) (r2 := 0) (r3 := 0) rfl rfl (fun _ => rfl) (fun e10 (fe10 : e10 = x2 + 1) => ?_)
      refine wi_goto (nx := 29) (r1 := 5) (r2 := 0) (r3 := 0) rfl ?_
      refine wp.lo (lo := [(0, vi a0), (1, vi x1), (2, vi e10)]) ⟨rfl, rfl, rfl, trivial⟩ rfl ?_
      exact I3 x1 e10 h ⟨rfl, (show (0 ≤ x1 ∧ x1 ≤ 15) ∧ (0 ≤ e10 ∧ e10 ≤ 5) by omega), (by
          have xh1 := X3_0
          rw [show (e10).toNat = (x2).toNat + 1 by omega]
          show x1 = ((min (xmq (fun c => a0.toNat / 16 ^ c % 16) (x2).toNat) (a0.toNat / 16 ^ (x2).toNat % 16) : Nat) : Int)
          omega)⟩ (show ((5 : Int) + 1 - e10).toNat < ((5 : Int) + 1 - x2).toNat by omega)
-- method 114: Exchange.waysFrom(II)I
set_option maxRecDepth 100000 in
set_option maxHeartbeats 100000000 in
theorem cr_114_63 {L : Nat} {xs : Nat → Int32} {b c : Nat} {cr : Nat → Nat → Option Nat} (hcr : CR cr) (n : Nat) : ∀ {d : Nat} {h : hp} {Q : hp_Q} (g : GI h) (a0 : Int) (a1 : Int) (q0_ : 0 ≤ a0 ∧ a0 ≤ 12) (q1_ : 0 ≤ a1 ∧ a1 ≤ 4095) (pp0 : h 63 4 ≤ 12) (pp1 : a0 = 0 ∨ a0 ≤ h 63 4) (xq0 : XG h) (xq1 : pc (a1).toNat = (a0).toNat ∧ (a1).toNat < 2 ^ xK h) (hn : 12 - a0 ≤ n) (k : ∀ (h2 : hp) (z0 : Int) , GI h2 → FR [(64, 64, none)] h h2 → (-2147483648 ≤ z0 ∧ z0 ≤ 2147483647) → (z0 = ((xp (xW h (a1).toNat) 5 : Nat) : Int)) → (XG h2) → Q (.inl (some (vi z0))) (hp_w h2 cr) b c), wp (md_xa (L, xs)) (d + 1 * n + 5) 114 (0, [(0, .ref 63), (1, vi a0), (2, vi a1)], [], hp_w h cr, b, c) Q := by
  induction n using Nat.strongRecOn with
  | _ n IH =>
  intro d h Q g a0 a1 q0_ q1_ pp0 pp1 xq0 xq1 hn k
  have F0 : FR [(64, 64, none)] h h := FR.refl
  have b1 := gi_b (lo := -12) (hi := 12) g 63 4 rfl
  refine wi_iload_n (i := 1) (e := a0) (nx := 1) (r1 := 0) (r2 := 0) (r3 := 0) rfl rfl ?_
  refine wi_aload_n (i := 0) (x := 63) (nx := 2) (r1 := 0) (r2 := 0) (r3 := 0) rfl rfl ?_
  refine wr_gi0 (k0 := 63) (x := h 63 4) (nx := 5) (r1 := 7) (r2 := 4) (r3 := 0) rfl rfl (by decide) rfl ⟨rfl, rfl⟩ rfl rfl ?_
  refine wi_icmp (cd := .ge) (nx := 8) (r1 := 21) (r2 := 0) (r3 := 0) rfl (by omega) (by omega) (fun (q2 : (h 63 4) ≤ a0) => ?_) (fun (q2 : ¬ ((h 63 4) ≤ a0)) => ?_)
  ·
    refine wi_iconst (n := 0) (nx := 22) (r1 := 0) (r2 := 0) (r3 := 0) rfl ?_
    refine wi_ireturn (nx := 23) (r1 := 0) (r2 := 0) (r3 := 0) rfl rfl ?_
    exact k h 0 g F0 (by omega) (by rw [xW_0 (h := h) (u := (a1).toNat) (by rw [xq1.1]; unfold xK; omega)]; rfl) xq0
  ·
    refine wi_iload_n (i := 2) (e := a1) (nx := 9) (r1 := 0) (r2 := 0) (r3 := 0) rfl rfl ?_
    refine wi_if (cd := .lt) (nx := 12) (r1 := 21) (r2 := 0) (r3 := 0) rfl (by omega) (fun (q3 : a1 < 0) => by exfalso; omega) (fun (q3 : ¬ (a1 < 0)) => ?_)
    refine wi_iload_n (i := 2) (e := a1) (nx := 13) (r1 := 0) (r2 := 0) (r3 := 0) rfl rfl ?_
    refine wi_aload_n (i := 0) (x := 63) (nx := 14) (r1 := 0) (r2 := 0) (r3 := 0) rfl rfl ?_
    refine wr_gr (k0 := 63) (x := 64) (nx := 17) (r1 := 7) (r2 := 2) (r3 := 0) rfl rfl (by decide) rfl ⟨rfl, rfl⟩ rfl ?_
    refine wr_al (k0 := 64) (e := 4096) (nx := 18) (r1 := 0) (r2 := 0) (r3 := 0) rfl (by decide) rfl rfl ?_
    refine wi_icmp (cd := .lt) (nx := 21) (r1 := 23) (r2 := 0) (r3 := 0) rfl (by omega) (by omega) (fun (q4 : a1 < 4096) => ?_) (fun (q4 : ¬ (a1 < 4096)) => by exfalso; omega)
    refine wi_aload_n (i := 0) (x := 63) (nx := 24) (r1 := 0) (r2 := 0) (r3 := 0) rfl rfl ?_
    refine wr_gr (k0 := 63) (x := 64) (nx := 27) (r1 := 7) (r2 := 2) (r3 := 0) rfl rfl (by decide) rfl ⟨rfl, rfl⟩ rfl ?_
    refine wi_iload_n (i := 2) (e := a1) (nx := 28) (r1 := 0) (r2 := 0) (r3 := 0) rfl rfl ?_
    obtain ⟨i5, ei5⟩ : ∃ q : Nat, a1 = (q : Int) := ⟨(a1).toNat, by omega⟩
    have b6 := gi_b (lo := -2147483648) (hi := 2147483647) g 64 i5 rfl
    refine wr_ia (k0 := 64) (a := a1) (f := i5) (x := h 64 i5) (nx := 29) (r1 := 0) (r2 := 0) (r3 := 0) rfl (by decide) rfl (by omega) (by omega) (by decide) rfl ?_
    refine wi_iconst (n := (-1)) (nx := 30) (r1 := 0) (r2 := 0) (r3 := 0) rfl ?_
    refine wi_icmp (cd := .eq) (nx := 33) (r1 := 40) (r2 := 0) (r3 := 0) rfl (by omega) (by omega) (fun (q7 : (h 64 i5) = (-1)) => ?_) (fun (q7 : ¬ ((h 64 i5) = (-1))) => ?_)
    ·
      refine wi_iconst (n := 0) (nx := 41) (r1 := 0) (r2 := 0) (r3 := 0) rfl ?_
      refine wi_istore_n (i := 3) (e := 0) (lo2 := [(3, vi 0), (0, .ref 63), (1, vi a0), (2, vi a1)]) (nx := 42) (r1 := 0) (r2 := 0) (r3 := 0) rfl rfl ?_
      refine wi_iconst (n := 0) (nx := 43) (r1 := 0) (r2 := 0) (r3 := 0) rfl ?_
      refine wi_istore (i := 4) (e := 0) (lo2 := [(4, vi 0), (3, vi 0), (0, .ref 63), (1, vi a0), (2, vi a1)]) (nx := 45) (r1 := 0) (r2 := 0) (r3 := 0) rfl rfl ?_
      refine wp.lo (lo := [(0, .ref 63), (1, vi a0), (2, vi a1), (3, vi 0), (4, vi 0)]) ⟨rfl, rfl, rfl, rfl, rfl, trivial⟩ rfl ?_
      refine wl_2 (fun x8 x9 h10 => GI h10 ∧ FR [(64, 64, none)] h h10 ∧ FR [(64, 64, none)] h h10 ∧ ((0 ≤ x8 ∧ x8 ≤ 1048575) ∧ (0 ≤ x9 ∧ x9 ≤ 5)) ∧ (x8 = ((xp (xW h (a1).toNat) (x9).toNat : Nat) : Int)) ∧ (XMp (xC h) (xB h) (xK h) (h 3 9) (h10 64))) (fun x8 x9 h10 => ((5 : Int) + 1 - x9).toNat) (fun x8 x9 h10 => (45, [(0, .ref 63), (1, vi a0), (2, vi a1), (3, vi x8), (4, vi x9)], [], hp_w h10 cr, b, c)) ?_ 0 0 h ⟨g, F0, FR.refl, (show (0 ≤ 0 ∧ 0 ≤ 1048575) ∧ (0 ≤ 0 ∧ 0 ≤ 5) by omega), rfl, xq0.2⟩
      intro x8 x9 h10 ⟨g10, F11, u10, f10, X10_0, X10_1⟩ I10
      refine wi_iload (i := 4) (e := x9) (nx := 47) (r1 := 0) (r2 := 0) (r3 := 0) rfl rfl ?_
      refine wi_iconst (n := 5) (nx := 48) (r1 := 0) (r2 := 0) (r3 := 0) rfl ?_
      refine wi_icmp (cd := .ge) (nx := 51) (r1 := 121) (r2 := 0) (r3 := 0) rfl (by omega) (by omega) (fun (q12 : 5 ≤ x9) => ?_) (fun (q12 : ¬ (5 ≤ x9)) => ?_)
      ·
        refine wi_aload_n (i := 0) (x := 63) (nx := 122) (r1 := 0) (r2 := 0) (r3 := 0) rfl rfl ?_
        refine wr_gr (k0 := 63) (x := 64) (nx := 125) (r1 := 7) (r2 := 2) (r3 := 0) rfl rfl (by decide) rfl ⟨rfl, rfl⟩ rfl ?_
        refine wi_iload_n (i := 2) (e := a1) (nx := 126) (r1 := 0) (r2 := 0) (r3 := 0) rfl rfl ?_
        refine wi_iload_n (i := 3) (e := x8) (nx := 127) (r1 := 0) (r2 := 0) (r3 := 0) rfl rfl ?_
        refine wr_is (k0 := 64) (a := a1) (f := i5) (x := x8) (bl := -2147483648) (bh := 2147483647) (nx := 128) (r1 := 0) (r2 := 0) (r3 := 0) rfl (by decide) rfl (by omega) (by omega) (by decide) g10 rfl (by omega) (fun h13 g13 w13 u13 => ?_)
        have F14 := F11.then rfl (FR.rngp (lo := 64) (hi := 64) u13 (by decide))
        refine wi_iload_n (i := 3) (e := x8) (nx := 129) (r1 := 0) (r2 := 0) (r3 := 0) rfl rfl ?_
        refine wi_ireturn (nx := 130) (r1 := 0) (r2 := 0) (r3 := 0) rfl rfl ?_
        have q16 : h13 19 = h 19 := funext (fun i => ((u13 19 i (fn_a (by omega) fn_0)).trans (u10 19 i (fo_no_ok (by decide) i))))
        have q17 : h13 8 = h 8 := funext (fun i => ((u13 8 i (fn_a (by omega) fn_0)).trans (u10 8 i (fo_no_ok (by decide) i))))
        have q18 : h13 65 = h 65 := funext (fun i => ((u13 65 i (fn_a (by omega) fn_0)).trans (u10 65 i (fo_no_ok (by decide) i))))
        exact k h13 x8 g13 F14 (by omega) (by have xh1 := X10_0; rw [show (x9).toNat = 5 by omega] at xh1; exact xh1) (XG.at q16 q17 ((u13 18 7 (fn_a (by omega) fn_0)).trans (u10 18 7 rfl)) ((u13 63 4 (fn_a (by omega) fn_0)).trans (u10 63 4 rfl)) ((u13 3 9 (fn_a (by omega) fn_0)).trans (u10 3 9 rfl)) q18 xq0.1 (XMp.put (u := i5) X10_1 w13 (fun i e => u13 64 i (fn_i (by omega) fn_0)) (by rw [show xw (xC h) (xB h) (xK h) (h 3 9) (xK h - pc i5) i5 = xW h i5 from rfl]; have xh1 := X10_0; rw [show (x9).toNat = 5 by omega, show (a1).toNat = i5 by omega] at xh1; exact xh1)))
      ·
        have jk : xK h ≤ 12 := by unfold xK; omega
        have ju : (a1).toNat < 2 ^ xK h := xq1.2
        have jp : pc (a1).toNat = (a0).toNat := xq1.1
        have jr : xK h - pc (a1).toNat = xK h - (pc (a1).toNat + 1) + 1 := by unfold xK at *; omega
        refine wi_aload_n (i := 0) (x := 63) (nx := 52) (r1 := 0) (r2 := 0) (r3 := 0) rfl rfl ?_
        refine wi_iload (i := 4) (e := x9) (nx := 54) (r1 := 0) (r2 := 0) (r3 := 0) rfl rfl ?_
        refine wi_iload_n (i := 1) (e := a0) (nx := 55) (r1 := 0) (r2 := 0) (r3 := 0) rfl rfl ?_
        refine wi_iload_n (i := 2) (e := a1) (nx := 56) (r1 := 0) (r2 := 0) (r3 := 0) rfl rfl ?_
        refine wr_V (k0 := 63) (rest := []) (as := [.ref 63, vi x9, vi a0, vi a1]) (nx := 59) (r1 := 115) (r2 := 3) (r3 := 7) rfl rfl rfl (of_decide_eq_true rfl) rfl rfl (by decide) rfl rfl (of_decide_eq_true rfl) (of_decide_eq_true rfl) ?_
        have e14 : h10 63 4 = h 63 4 := (u10 63 4 rfl)
        have q17 : h10 19 = h 19 := funext (fun i => (u10 19 i (fo_no_ok (by decide) i)))
        have q18 : h10 8 = h 8 := funext (fun i => (u10 8 i (fo_no_ok (by decide) i)))
        have q19 : h10 65 = h 65 := funext (fun i => (u10 65 i (fo_no_ok (by decide) i)))
        have xj16 : XJp (xC h10) (xB h10) (xK h10) (h10 65) := XJp.at q17 q18 (u10 18 7 rfl) (u10 63 4 rfl) (u10 3 9 rfl) q19 xq0.1
        refine ct_115_63 hcr  g10 x9 a0 a1 (by omega) (by omega) (by omega) (show a0 < (h10 63 4) by omega) (show (h10 63 4) ≤ 12 by omega) xj16 (fun z15  (fz15 : -1 ≤ z15 ∧ z15 ≤ 11) (p13_0 : -1 ≤ z15 ∧ z15 ≤ 11) (p13_1 : 0 ≤ x9 ∨ z15 = -1) y13_0 => ?_)
        refine wk_i ?_
        have q21 : h10 19 = h 19 := funext (fun i => (u10 19 i (fo_no_ok (by decide) i)))
        have q22 : h10 8 = h 8 := funext (fun i => (u10 8 i (fo_no_ok (by decide) i)))
        have jv20 : z15 = xj (xC h) (xB h) (xK h) (h 3 9) (pc (a1).toNat) (((x9).toNat : Nat) : Int) (a1).toNat := by rw [show (((x9).toNat : Nat) : Int) = x9 by omega, jp, ← xj_eq q21 q22 (u10 18 7 rfl) (u10 63 4 rfl) (u10 3 9 rfl)]; exact y13_0 (by omega)
        refine wi_istore (i := 5) (e := z15) (lo2 := [(5, vi z15), (0, .ref 63), (1, vi a0), (2, vi a1), (3, vi x8), (4, vi x9)]) (nx := 61) (r1 := 0) (r2 := 0) (r3 := 0) rfl rfl ?_
        refine wi_bipush (n := 15) (nx := 63) (r1 := 0) (r2 := 0) (r3 := 0) rfl (by decide) ?_
        refine wi_istore (i := 6) (e := 15) (lo2 := [(6, vi 15), (5, vi z15), (0, .ref 63), (1, vi a0), (2, vi a1), (3, vi x8), (4, vi x9)]) (nx := 65) (r1 := 0) (r2 := 0) (r3 := 0) rfl rfl ?_
        refine wi_iload (i := 5) (e := z15) (nx := 67) (r1 := 0) (r2 := 0) (r3 := 0) rfl rfl ?_
        refine wi_iconst (n := (-1)) (nx := 68) (r1 := 0) (r2 := 0) (r3 := 0) rfl ?_
        refine wi_icmp (cd := .eq) (nx := 71) (r1 := 105) (r2 := 0) (r3 := 0) rfl (by omega) (by omega) (fun (q23 : z15 = (-1)) => ?_) (fun (q23 : ¬ (z15 = (-1))) => ?_)
        ·
          refine wi_iload_n (i := 3) (e := x8) (nx := 106) (r1 := 0) (r2 := 0) (r3 := 0) rfl rfl ?_
          refine wi_iload (i := 6) (e := 15) (nx := 108) (r1 := 0) (r2 := 0) (r3 := 0) rfl rfl ?_
          refine wi_iload (i := 4) (e := x9) (nx := 110) (r1 := 0) (r2 := 0) (r3 := 0) rfl rfl ?_
          refine wi_iconst (n := 4) (nx := 111) (r1 := 0) (r2 := 0) (r3 := 0) rfl ?_
          refine wr_mul (nx := 112) (r1 := 0) (r2 := 0) (r3 := 0) rfl (fun e24 (fe24 : e24 = x9 * 4) => ?_)
          refine wr_ishl16 (x := 15) (y := e24) (nx := 113) (r1 := 0) (r2 := 0) (r3 := 0) rfl (by omega) (by omega) (fun e25 (fe25 : 0 ≤ e25 ∧ e25 ≤ 983040) ve25 => ?_)
          have we25 : (e25).toNat = ((15 : Int)).toNat * 16 ^ (x9).toNat := by rw [ve25, show (e24).toNat = 4 * (x9).toNat by omega, Nat.pow_mul]; rfl
          refine wr_iorN (x := x8) (y := e25) 20 1048576 (by decide) (by decide) (nx := 114) (r1 := 0) (r2 := 0) (r3 := 0) rfl (by omega) (by omega) (fun e26 (fe26 : 0 ≤ e26 ∧ e26 < 1048576) ve26 => ?_)
          refine wi_istore_n (i := 3) (e := e26) (lo2 := [(3, vi e26), (6, vi 15), (5, vi z15), (0, .ref 63), (1, vi a0), (2, vi a1), (4, vi x9)]) (nx := 115) (r1 := 0) (r2 := 0) (r3 := 0) rfl rfl ?_
          refine wr_iinc (i := 4) (n := 1) (v := x9) (fun e27 => [(4, vi e27), (3, vi e26), (6, vi 15), (5, vi z15), (0, .ref 63), (1, vi a0), (2, vi a1)]) (nx := 118) (r1 := 0) (r2 := 0) (r3 := 0) rfl rfl (fun _ => rfl) (fun e27 (fe27 : e27 = x9 + 1) => ?_)
          refine wi_goto (nx := 121) (r1 := 45) (r2 := 0) (r3 := 0) rfl ?_
          refine wp.lo (lo := [(0, .ref 63), (1, vi a0), (2, vi a1), (3, vi e26), (4, vi e27)]) ⟨rfl, rfl, rfl, rfl, rfl, trivial⟩ rfl ?_
          have bw28 : ((15 : Int)).toNat = xW h (a1).toNat (x9).toNat := by rw [xW_no (h := h) (u := (a1).toNat) (c := (x9).toNat) jr (by rw [← jv20]; omega)]; omega
          have bw28l := xp_lt (f := xW h (a1).toNat) (fun c => xW_le _ _ c) (x9).toNat
          have bw28x := X10_0
          exact I10 e26 e27 h10 ⟨g10, F11, u10, (show (0 ≤ e26 ∧ e26 ≤ 1048575) ∧ (0 ≤ e27 ∧ e27 ≤ 5) by omega), (by
              rw [ve26, we25, show (e27).toNat = (x9).toNat + 1 by omega, show (x8).toNat = xp (xW h (a1).toNat) (x9).toNat by omega, bw28, xp_or bw28l]
              rfl), X10_1⟩ (show ((5 : Int) + 1 - e27).toNat < ((5 : Int) + 1 - x9).toNat by omega)
        ·
          obtain ⟨jv20j, jv20e, jv20k, jv20c, jv20b, jv20u⟩ := xj_ok jk (show xj (xC h) (xB h) (xK h) (h 3 9) (pc (a1).toNat) (((x9).toNat : Nat) : Int) (a1).toNat ≠ -1 by rw [← jv20]; omega)
          have jv20z : (z15).toNat = jv20j := by rw [jv20, jv20e]; rfl
          have h12 : (2 : Nat) ^ 12 = 4096 := by decide
          have jv20o := bit_or (s := (a1).toNat) (j := jv20j) (by omega) (by omega) jv20u
          refine wi_aload_n (i := 0) (x := 63) (nx := 72) (r1 := 0) (r2 := 0) (r3 := 0) rfl rfl ?_
          refine wi_iload_n (i := 1) (e := a0) (nx := 73) (r1 := 0) (r2 := 0) (r3 := 0) rfl rfl ?_
          refine wi_iconst (n := 1) (nx := 74) (r1 := 0) (r2 := 0) (r3 := 0) rfl ?_
          refine wr_add (nx := 75) (r1 := 0) (r2 := 0) (r3 := 0) rfl (fun e24 (fe24 : e24 = a0 + 1) => ?_)
          refine wi_iload_n (i := 2) (e := a1) (nx := 76) (r1 := 0) (r2 := 0) (r3 := 0) rfl rfl ?_
          refine wi_iconst (n := 1) (nx := 77) (r1 := 0) (r2 := 0) (r3 := 0) rfl ?_
          refine wi_iload (i := 5) (e := z15) (nx := 79) (r1 := 0) (r2 := 0) (r3 := 0) rfl rfl ?_
          refine wr_ishl1 (y := z15) (nx := 80) (r1 := 0) (r2 := 0) (r3 := 0) rfl (by omega) (fun e25 (fe25 : 1 ≤ e25 ∧ e25 ≤ 4096) ve25 => ?_)
          have ke25 : e25 ≤ 2048 := by rw [ve25]; have := Nat.pow_le_pow_right (show 0 < 2 by decide) (show (z15).toNat ≤ 11 by omega); omega
          refine wr_iorN (x := a1) (y := e25) 12 4096 (by decide) (by decide) (nx := 81) (r1 := 0) (r2 := 0) (r3 := 0) rfl (by omega) (by omega) (fun e26 (fe26 : 0 ≤ e26 ∧ e26 < 4096) ve26 => ?_)
          have we26 : (e26).toNat = (a1).toNat ||| 2 ^ jv20j := by rw [ve26, ve25, jv20z]; rfl
          refine wr_V (k0 := 63) (rest := []) (as := [.ref 63, vi e24, vi e26]) (nx := 84) (r1 := 114) (r2 := 2) (r3 := 7) rfl rfl rfl (of_decide_eq_true rfl) rfl rfl (by decide) rfl rfl (of_decide_eq_true rfl) (of_decide_eq_true rfl) ?_
          have q30 : h10 19 = h 19 := funext (fun i => (u10 19 i (fo_no_ok (by decide) i)))
          have q31 : h10 8 = h 8 := funext (fun i => (u10 8 i (fo_no_ok (by decide) i)))
          have q32 : h10 65 = h 65 := funext (fun i => (u10 65 i (fo_no_ok (by decide) i)))
          have q33 : h10 64 = h10 64 := funext (fun i => rfl)
          have xg29 : XG h10 := XG.at q30 q31 (u10 18 7 rfl) (u10 63 4 rfl) (u10 3 9 rfl) q32 xq0.1 (by rw [q33]; exact X10_1)
          have pk34 : pc (e26).toNat = pc (a1).toNat + 1 ∧ (e26).toNat < 2 ^ xK h10 := by rw [we26, (show xK h10 = xK h by unfold xK; rw [(u10 63 4 rfl)])]; exact ⟨jv20o.2, Nat.or_lt_two_pow ju (Nat.pow_lt_pow_right (by decide) jv20k)⟩
          refine wp_eq (e := d + 1 * (n - 1) + 5) (by omega) ?_
          refine IH (n - 1) (by omega) g10 e24 e26 (by omega) (by omega) (show (h10 63 4) ≤ 12 by omega) (show e24 = 0 ∨ e24 ≤ (h10 63 4) by omega) xg29 ⟨by rw [pk34.1, jp]; omega, pk34.2⟩ (by omega) (fun h27 z28 g27 u27 (fz28 : -2147483648 ≤ z28 ∧ z28 ≤ 2147483647) y27_0 y27_1 => ?_)
          have F35 := F11.then (by decide +kernel) u27
          have F36 := u10.then (by decide +kernel) u27
          have q38 : h10 19 = h 19 := funext (fun i => (u10 19 i (fo_no_ok (by decide) i)))
          have q39 : h10 8 = h 8 := funext (fun i => (u10 8 i (fo_no_ok (by decide) i)))
          have q40 : h27 19 = h 19 := funext (fun i => ((u27 19 i (fo_no_ok (by decide) i)).trans (u10 19 i (fo_no_ok (by decide) i))))
          have q41 : h27 8 = h 8 := funext (fun i => ((u27 8 i (fo_no_ok (by decide) i)).trans (u10 8 i (fo_no_ok (by decide) i))))
          have wv37 : z28 = ((xp (xW h (e26).toNat) 5 : Nat) : Int) := by rw [← xW_eq q38 q39 (u10 18 7 rfl) (u10 63 4 rfl) (u10 3 9 rfl)]; exact y27_0
          have wv37m := XG.to q40 q41 ((u27 18 7 rfl).trans (u10 18 7 rfl)) ((u27 63 4 rfl).trans (u10 63 4 rfl)) ((u27 3 9 rfl).trans (u10 3 9 rfl)) y27_1
          have wv37l := xp_lt (f := xW h (e26).toNat) (fun c => xW_le _ _ c) 5
          have wv37b : 0 ≤ z28 ∧ z28 ≤ 1048575 := by rw [wv37]; have h16 : 16 ^ 5 = 1048576 := (by decide); omega
          refine wk_i ?_
          refine wi_istore (i := 7) (e := z28) (lo2 := [(7, vi z28), (6, vi 15), (5, vi z15), (0, .ref 63), (1, vi a0), (2, vi a1), (3, vi x8), (4, vi x9)]) (nx := 86) (r1 := 0) (r2 := 0) (r3 := 0) rfl rfl ?_
          refine wi_iload (i := 7) (e := z28) (nx := 88) (r1 := 0) (r2 := 0) (r3 := 0) rfl rfl ?_
          refine wi_iload (i := 4) (e := x9) (nx := 90) (r1 := 0) (r2 := 0) (r3 := 0) rfl rfl ?_
          refine wi_S (rest := []) (as := [vi z28, vi x9]) (nx := 93) (r1 := 116) (r2 := 18) (r3 := 0) rfl rfl rfl (of_decide_eq_true rfl) rfl rfl (of_decide_eq_true rfl) (of_decide_eq_true rfl) ?_
          refine ct_116 hcr  g27 z28 x9 (by omega) (by omega)  (fun z43  (fz43 : 0 ≤ z43 ∧ z43 ≤ 15) (p42_0 : 0 ≤ z43 ∧ z43 ≤ 15) y42_0 => ?_)
          refine wk_i ?_
          refine wi_iload (i := 7) (e := z28) (nx := 95) (r1 := 0) (r2 := 0) (r3 := 0) rfl rfl ?_
          refine wi_S (rest := [vi z43]) (as := [vi z28]) (nx := 98) (r1 := 117) (r2 := 17) (r3 := 0) rfl rfl rfl (of_decide_eq_true rfl) rfl rfl (of_decide_eq_true rfl) (of_decide_eq_true rfl) ?_
          refine ct_117 hcr  g27 z28 (by omega)  (fun z45  (fz45 : 0 ≤ z45 ∧ z45 ≤ 15) (p44_0 : 0 ≤ z45 ∧ z45 ≤ 15) y44_0 => ?_)
          refine wk_i ?_
          refine wi_iconst (n := 1) (nx := 99) (r1 := 0) (r2 := 0) (r3 := 0) rfl ?_
          refine wr_add (nx := 100) (r1 := 0) (r2 := 0) (r3 := 0) rfl (fun e46 (fe46 : e46 = z45 + 1) => ?_)
          refine wi_S (rest := []) (as := [vi z43, vi e46]) (nx := 103) (r1 := 133) (r2 := 18) (r3 := 0) rfl rfl rfl (of_decide_eq_true rfl) rfl rfl (of_decide_eq_true rfl) (of_decide_eq_true rfl) ?_
          refine wi_iload_n (i := 0) (e := z43) (nx := 1) (r1 := 0) (r2 := 0) (r3 := 0) rfl rfl ?_
          refine wi_iload_n (i := 1) (e := e46) (nx := 2) (r1 := 0) (r2 := 0) (r3 := 0) rfl rfl ?_
          refine wi_icmp (cd := .gt) (nx := 5) (r1 := 9) (r2 := 0) (r3 := 0) rfl (by omega) (by omega) (fun (q47 : e46 < z43) => ?_) (fun (q47 : ¬ (e46 < z43)) => ?_)
          ·
            refine wi_iload_n (i := 1) (e := e46) (nx := 10) (r1 := 0) (r2 := 0) (r3 := 0) rfl rfl ?_
            refine wi_ireturn (nx := 11) (r1 := 0) (r2 := 0) (r3 := 0) rfl rfl ?_
            refine wk_i ?_
            have fv48a : z43 = ((xW h (e26).toNat (x9).toNat : Nat) : Int) := by rw [y42_0, wv37]; rw [show ((((xp (xW h (e26).toNat) 5 : Nat) : Int)).toNat) = xp (xW h (e26).toNat) 5 from rfl, xp_at (f := xW h (e26).toNat) (fun c => xW_le _ _ c) (x9).toNat 5 (by omega)]
            have fv48b : z45 = ((xm (xW h (e26).toNat) : Nat) : Int) := by rw [y44_0, wv37]; rw [show ((((xp (xW h (e26).toNat) 5 : Nat) : Int)).toNat) = xp (xW h (e26).toNat) 5 from rfl, xm_congr (fun c hc => xp_at (f := xW h (e26).toNat) (fun c => xW_le _ _ c) c 5 hc)]
            have fv48 := xW_go (h := h) (u := (a1).toNat) (c := (x9).toNat) (j := jv20j) jr jv20e jv20o.2
            rw [← we26] at fv48
            refine wi_istore (i := 6) (e := e46) (lo2 := [(6, vi e46), (7, vi z28), (5, vi z15), (0, .ref 63), (1, vi a0), (2, vi a1), (3, vi x8), (4, vi x9)]) (nx := 105) (r1 := 0) (r2 := 0) (r3 := 0) rfl rfl ?_
            refine wi_iload_n (i := 3) (e := x8) (nx := 106) (r1 := 0) (r2 := 0) (r3 := 0) rfl rfl ?_
            refine wi_iload (i := 6) (e := e46) (nx := 108) (r1 := 0) (r2 := 0) (r3 := 0) rfl rfl ?_
            refine wi_iload (i := 4) (e := x9) (nx := 110) (r1 := 0) (r2 := 0) (r3 := 0) rfl rfl ?_
            refine wi_iconst (n := 4) (nx := 111) (r1 := 0) (r2 := 0) (r3 := 0) rfl ?_
            refine wr_mul (nx := 112) (r1 := 0) (r2 := 0) (r3 := 0) rfl (fun e49 (fe49 : e49 = x9 * 4) => ?_)
            refine wr_ishl16 (x := e46) (y := e49) (nx := 113) (r1 := 0) (r2 := 0) (r3 := 0) rfl (by omega) (by omega) (fun e50 (fe50 : 0 ≤ e50 ∧ e50 ≤ 983040) ve50 => ?_)
            have we50 : (e50).toNat = (e46).toNat * 16 ^ (x9).toNat := by rw [ve50, show (e49).toNat = 4 * (x9).toNat by omega, Nat.pow_mul]; rfl
            refine wr_iorN (x := x8) (y := e50) 20 1048576 (by decide) (by decide) (nx := 114) (r1 := 0) (r2 := 0) (r3 := 0) rfl (by omega) (by omega) (fun e51 (fe51 : 0 ≤ e51 ∧ e51 < 1048576) ve51 => ?_)
            refine wi_istore_n (i := 3) (e := e51) (lo2 := [(3, vi e51), (6, vi e46), (7, vi z28), (5, vi z15), (0, .ref 63), (1, vi a0), (2, vi a1), (4, vi x9)]) (nx := 115) (r1 := 0) (r2 := 0) (r3 := 0) rfl rfl ?_
            refine wr_iinc (i := 4) (n := 1) (v := x9) (fun e52 => [(4, vi e52), (3, vi e51), (6, vi e46), (7, vi z28), (5, vi z15), (0, .ref 63), (1, vi a0), (2, vi a1)]) (nx := 118) (r1 := 0) (r2 := 0) (r3 := 0) rfl rfl (fun _ => rfl) (fun e52 (fe52 : e52 = x9 + 1) => ?_)
            refine wi_goto (nx := 121) (r1 := 45) (r2 := 0) (r3 := 0) rfl ?_
            refine wp.lo (lo := [(0, .ref 63), (1, vi a0), (2, vi a1), (3, vi e51), (4, vi e52)]) ⟨rfl, rfl, rfl, rfl, rfl, trivial⟩ rfl ?_
            have bw53 : (e46).toNat = xW h (a1).toNat (x9).toNat := by rw [fv48]; omega
            have bw53l := xp_lt (f := xW h (a1).toNat) (fun c => xW_le _ _ c) (x9).toNat
            have bw53x := X10_0
            exact I10 e51 e52 h27 ⟨g27, F35, F36, (show (0 ≤ e51 ∧ e51 ≤ 1048575) ∧ (0 ≤ e52 ∧ e52 ≤ 5) by omega), (by
                rw [ve51, we50, show (e52).toNat = (x9).toNat + 1 by omega, show (x8).toNat = xp (xW h (a1).toNat) (x9).toNat by omega, bw53, xp_or bw53l]
                rfl), wv37m⟩ (show ((5 : Int) + 1 - e52).toNat < ((5 : Int) + 1 - x9).toNat by omega)
          ·
            refine wi_iload_n (i := 0) (e := z43) (nx := 6) (r1 := 0) (r2 := 0) (r3 := 0) rfl rfl ?_
            refine wi_goto (nx := 9) (r1 := 10) (r2 := 0) (r3 := 0) rfl ?_
            refine wi_ireturn (nx := 11) (r1 := 0) (r2 := 0) (r3 := 0) rfl rfl ?_
            refine wk_i ?_
            have fv48a : z43 = ((xW h (e26).toNat (x9).toNat : Nat) : Int) := by rw [y42_0, wv37]; rw [show ((((xp (xW h (e26).toNat) 5 : Nat) : Int)).toNat) = xp (xW h (e26).toNat) 5 from rfl, xp_at (f := xW h (e26).toNat) (fun c => xW_le _ _ c) (x9).toNat 5 (by omega)]
            have fv48b : z45 = ((xm (xW h (e26).toNat) : Nat) : Int) := by rw [y44_0, wv37]; rw [show ((((xp (xW h (e26).toNat) 5 : Nat) : Int)).toNat) = xp (xW h (e26).toNat) 5 from rfl, xm_congr (fun c hc => xp_at (f := xW h (e26).toNat) (fun c => xW_le _ _ c) c 5 hc)]
            have fv48 := xW_go (h := h) (u := (a1).toNat) (c := (x9).toNat) (j := jv20j) jr jv20e jv20o.2
            rw [← we26] at fv48
            refine wi_istore (i := 6) (e := z43) (lo2 := [(6, vi z43), (7, vi z28), (5, vi z15), (0, .ref 63), (1, vi a0), (2, vi a1), (3, vi x8), (4, vi x9)]) (nx := 105) (r1 := 0) (r2 := 0) (r3 := 0) rfl rfl ?_
            refine wi_iload_n (i := 3) (e := x8) (nx := 106) (r1 := 0) (r2 := 0) (r3 := 0) rfl rfl ?_
            refine wi_iload (i := 6) (e := z43) (nx := 108) (r1 := 0) (r2 := 0) (r3 := 0) rfl rfl ?_
            refine wi_iload (i := 4) (e := x9) (nx := 110) (r1 := 0) (r2 := 0) (r3 := 0) rfl rfl ?_
            refine wi_iconst (n := 4) (nx := 111) (r1 := 0) (r2 := 0) (r3 := 0) rfl ?_
            refine wr_mul (nx := 112) (r1 := 0) (r2 := 0) (r3 := 0) rfl (fun e49 (fe49 : e49 = x9 * 4) => ?_)
            refine wr_ishl16 (x := z43) (y := e49) (nx := 113) (r1 := 0) (r2 := 0) (r3 := 0) rfl (by omega) (by omega) (fun e50 (fe50 : 0 ≤ e50 ∧ e50 ≤ 983040) ve50 => ?_)
            have we50 : (e50).toNat = (z43).toNat * 16 ^ (x9).toNat := by rw [ve50, show (e49).toNat = 4 * (x9).toNat by omega, Nat.pow_mul]; rfl
            refine wr_iorN (x := x8) (y := e50) 20 1048576 (by decide) (by decide) (nx := 114) (r1 := 0) (r2 := 0) (r3 := 0) rfl (by omega) (by omega) (fun e51 (fe51 : 0 ≤ e51 ∧ e51 < 1048576) ve51 => ?_)
            refine wi_istore_n (i := 3) (e := e51) (lo2 := [(3, vi e51), (6, vi z43), (7, vi z28), (5, vi z15), (0, .ref 63), (1, vi a0), (2, vi a1), (4, vi x9)]) (nx := 115) (r1 := 0) (r2 := 0) (r3 := 0) rfl rfl ?_
            refine wr_iinc (i := 4) (n := 1) (v := x9) (fun e52 => [(4, vi e52), (3, vi e51), (6, vi z43), (7, vi z28), (5, vi z15), (0, .ref 63), (1, vi a0), (2, vi a1)]) (nx := 118) (r1 := 0) (r2 := 0) (r3 := 0) rfl rfl (fun _ => rfl) (fun e52 (fe52 : e52 = x9 + 1) => ?_)
            refine wi_goto (nx := 121) (r1 := 45) (r2 := 0) (r3 := 0) rfl ?_
            refine wp.lo (lo := [(0, .ref 63), (1, vi a0), (2, vi a1), (3, vi e51), (4, vi e52)]) ⟨rfl, rfl, rfl, rfl, rfl, trivial⟩ rfl ?_
            have bw53 : (z43).toNat = xW h (a1).toNat (x9).toNat := by rw [fv48]; omega
            have bw53l := xp_lt (f := xW h (a1).toNat) (fun c => xW_le _ _ c) (x9).toNat
            have bw53x := X10_0
            exact I10 e51 e52 h27 ⟨g27, F35, F36, (show (0 ≤ e51 ∧ e51 ≤ 1048575) ∧ (0 ≤ e52 ∧ e52 ≤ 5) by omega), (by
                rw [ve51, we50, show (e52).toNat = (x9).toNat + 1 by omega, show (x8).toNat = xp (xW h (a1).toNat) (x9).toNat by omega, bw53, xp_or bw53l]
                rfl), wv37m⟩ (show ((5 : Int) + 1 - e52).toNat < ((5 : Int) + 1 - x9).toNat by omega)
    ·
      refine wi_aload_n (i := 0) (x := 63) (nx := 34) (r1 := 0) (r2 := 0) (r3 := 0) rfl rfl ?_
      refine wr_gr (k0 := 63) (x := 64) (nx := 37) (r1 := 7) (r2 := 2) (r3 := 0) rfl rfl (by decide) rfl ⟨rfl, rfl⟩ rfl ?_
      refine wi_iload_n (i := 2) (e := a1) (nx := 38) (r1 := 0) (r2 := 0) (r3 := 0) rfl rfl ?_
      refine wr_ia (k0 := 64) (a := a1) (f := i5) (x := h 64 i5) (nx := 39) (r1 := 0) (r2 := 0) (r3 := 0) rfl (by decide) rfl (by omega) (by omega) (by decide) rfl ?_
      refine wi_ireturn (nx := 40) (r1 := 0) (r2 := 0) (r3 := 0) rfl rfl ?_
      exact k h (h 64 i5) g F0 (by omega) (by have m1 := xq0.2 (a1).toNat xq1.2 (by rw [xq1.1]; unfold xK; omega); rw [show (a1).toNat = i5 by omega] at m1 ⊢; exact m1.resolve_left (by omega)) xq0
theorem ct_114_63 {L : Nat} {xs : Nat → Int32} {d b c : Nat} {h : hp} {cr : Nat → Nat → Option Nat} {Q : hp_Q} (hcr : CR cr) (g : GI h) (a0 : Int) (a1 : Int) (q0_ : 0 ≤ a0 ∧ a0 ≤ 12) (q1_ : 0 ≤ a1 ∧ a1 ≤ 4095) (pp0 : h 63 4 ≤ 12) (pp1 : a0 = 0 ∨ a0 ≤ h 63 4) (xq0 : XG h) (xq1 : pc (a1).toNat = (a0).toNat ∧ (a1).toNat < 2 ^ xK h) (k : ∀ (h2 : hp) (z0 : Int) , GI h2 → FR [(64, 64, none)] h h2 → (-2147483648 ≤ z0 ∧ z0 ≤ 2147483647) → (z0 = ((xp (xW h (a1).toNat) 5 : Nat) : Int)) → (XG h2) → Q (.inl (some (vi z0))) (hp_w h2 cr) b c) : wp (md_xa (L, xs)) (d + 17) 114 (0, [(0, .ref 63), (1, vi a0), (2, vi a1)], [], hp_w h cr, b, c) Q := cr_114_63 hcr 12 g a0 a1 q0_ q1_ pp0 pp1 xq0 xq1 (by omega) k
-- method 119: Exchange.lowestColor(III)I
set_option maxRecDepth 100000 in
set_option maxHeartbeats 100000000 in
theorem ct_119 {L : Nat} {xs : Nat → Int32} {d b c : Nat} {h : hp} {cr : Nat → Nat → Option Nat} {Q : hp_Q} (hcr : CR cr)  (g : GI h) (a0 : Int) (a1 : Int) (a2 : Int) (q0_ : 0 ≤ a0 ∧ a0 ≤ 1048575) (q1_ : -2147483648 ≤ a1 ∧ a1 ≤ 2147483647) (q2_ : 0 ≤ a2 ∧ a2 ≤ 15)  (k : ∀ (z0 : Int), (-1 ≤ z0 ∧ z0 ≤ 4) → (-1 ≤ z0 ∧ z0 ≤ 4) → ((z0 = -1 ∧ ∀ c : Nat, c < 5 → ((((fun c => a0.toNat / 16 ^ c % 16) c : Nat)) : Int) + xc a1 c ≠ a2) ∨ (0 ≤ z0 ∧ z0 ≤ 4 ∧ ((((fun c => a0.toNat / 16 ^ c % 16) z0.toNat : Nat)) : Int) + xc a1 z0.toNat = a2)) → Q (.inl (some (vi z0))) (hp_w h cr) b c) : wp (md_xa (L, xs)) (d + 1) 119 (0, [(0, vi a0), (1, vi a1), (2, vi a2)], [], hp_w h cr, b, c) Q := by
  have F0 : FR [] h h := FR.refl
  refine wi_iconst (n := 0) (nx := 1) (r1 := 0) (r2 := 0) (r3 := 0) rfl ?_
  refine wi_istore_n (i := 3) (e := 0) (lo2 := [(3, vi 0), (0, vi a0), (1, vi a1), (2, vi a2)]) (nx := 2) (r1 := 0) (r2 := 0) (r3 := 0) rfl rfl ?_
  refine wp.lo (lo := [(0, vi a0), (1, vi a1), (2, vi a2), (3, vi 0)]) ⟨rfl, rfl, rfl, rfl, trivial⟩ rfl ?_
  refine wl_1 (fun x1 h2 => h = h2 ∧ ((0 ≤ x1 ∧ x1 ≤ 5)) ∧ (∀ c : Nat, (c : Int) < x1 → ((((fun c => a0.toNat / 16 ^ c % 16) c : Nat)) : Int) + xc a1 c ≠ a2)) (fun x1 h2 => ((5 : Int) + 1 - x1).toNat) (fun x1 h2 => (2, [(0, vi a0), (1, vi a1), (2, vi a2), (3, vi x1)], [], hp_w h2 cr, b, c)) ?_ 0 h ⟨rfl, (show (0 ≤ 0 ∧ 0 ≤ 5) by omega), (fun c e => absurd e (by omega))⟩
  intro x1 h2 ⟨e2, f2, X2_0⟩ I2
  subst e2
  refine wi_iload_n (i := 3) (e := x1) (nx := 3) (r1 := 0) (r2 := 0) (r3 := 0) rfl rfl ?_
  refine wi_iconst (n := 5) (nx := 4) (r1 := 0) (r2 := 0) (r3 := 0) rfl ?_
  refine wi_icmp (cd := .ge) (nx := 7) (r1 := 44) (r2 := 0) (r3 := 0) rfl (by omega) (by omega) (fun (q4 : 5 ≤ x1) => ?_) (fun (q4 : ¬ (5 ≤ x1)) => ?_)
  ·
    refine wi_iconst (n := (-1)) (nx := 45) (r1 := 0) (r2 := 0) (r3 := 0) rfl ?_
    refine wi_ireturn (nx := 46) (r1 := 0) (r2 := 0) (r3 := 0) rfl rfl ?_
    exact k (-1) (by omega) (show -1 ≤ (-1) ∧ (-1) ≤ 4 by omega) (Or.inl ⟨rfl, fun c hc => X2_0 c (by omega)⟩)
  ·
    refine wi_iload_n (i := 1) (e := a1) (nx := 8) (r1 := 0) (r2 := 0) (r3 := 0) rfl rfl ?_
    refine wi_iconst (n := (-1)) (nx := 9) (r1 := 0) (r2 := 0) (r3 := 0) rfl ?_
    refine wi_icmp (cd := .eq) (nx := 12) (r1 := 17) (r2 := 0) (r3 := 0) rfl (by omega) (by omega) (fun (q5 : a1 = (-1)) => ?_) (fun (q5 : ¬ (a1 = (-1))) => ?_)
    ·
      refine wi_iconst (n := 0) (nx := 18) (r1 := 0) (r2 := 0) (r3 := 0) rfl ?_
      refine wi_goto (nx := 21) (r1 := 22) (r2 := 0) (r3 := 0) rfl ?_
      refine wi_istore (i := 4) (e := 0) (lo2 := [(4, vi 0), (0, vi a0), (1, vi a1), (2, vi a2), (3, vi x1)]) (nx := 24) (r1 := 0) (r2 := 0) (r3 := 0) rfl rfl ?_
      refine wi_iload_n (i := 0) (e := a0) (nx := 25) (r1 := 0) (r2 := 0) (r3 := 0) rfl rfl ?_
      refine wi_iload_n (i := 3) (e := x1) (nx := 26) (r1 := 0) (r2 := 0) (r3 := 0) rfl rfl ?_
      refine wi_S (rest := []) (as := [vi a0, vi x1]) (nx := 29) (r1 := 116) (r2 := 18) (r3 := 0) rfl rfl rfl (of_decide_eq_true rfl) rfl rfl (of_decide_eq_true rfl) (of_decide_eq_true rfl) ?_
      refine ct_116 hcr  g a0 x1 (by omega) (by omega)  (fun z7  (fz7 : 0 ≤ z7 ∧ z7 ≤ 15) (p6_0 : 0 ≤ z7 ∧ z7 ≤ 15) y6_0 => ?_)
      refine wk_i ?_
      refine wi_iload (i := 4) (e := 0) (nx := 31) (r1 := 0) (r2 := 0) (r3 := 0) rfl rfl ?_
      refine wr_add (nx := 32) (r1 := 0) (r2 := 0) (r3 := 0) rfl (fun e8 (fe8 : e8 = z7 + 0) => ?_)
      refine wi_iload_n (i := 2) (e := a2) (nx := 33) (r1 := 0) (r2 := 0) (r3 := 0) rfl rfl ?_
      refine wi_icmp (cd := .ne) (nx := 36) (r1 := 38) (r2 := 0) (r3 := 0) rfl (by omega) (by omega) (fun (q9 : e8 ≠ a2) => ?_) (fun (q9 : ¬ (e8 ≠ a2)) => ?_)
      ·
        refine wr_iinc (i := 3) (n := 1) (v := x1) (fun e10 => [(3, vi e10), (4, vi 0), (0, vi a0), (1, vi a1), (2, vi a2)]) (nx := 41) (r1 := 0) (r2 := 0) (r3 := 0) rfl rfl (fun _ => rfl) (fun e10 (fe10 : e10 = x1 + 1) => ?_)
        refine wi_goto (nx := 44) (r1 := 2) (r2 := 0) (r3 := 0) rfl ?_
        refine wp.lo (lo := [(0, vi a0), (1, vi a1), (2, vi a2), (3, vi e10)]) ⟨rfl, rfl, rfl, rfl, trivial⟩ rfl ?_
        exact I2 e10 h ⟨rfl, (show (0 ≤ e10 ∧ e10 ≤ 5) by omega), (fun c h1 => by
            by_cases e1 : (c : Int) = x1
            · have y1 := y6_0
              rw [show (x1).toNat = c by omega] at y1
              unfold xc
              show ((a0.toNat / 16 ^ c % 16 : Nat) : Int) + _ ≠ a2
              rw [← y1]
              split <;> omega
            · exact X2_0 c (by omega))⟩ (show ((5 : Int) + 1 - e10).toNat < ((5 : Int) + 1 - x1).toNat by omega)
      ·
        refine wi_iload_n (i := 3) (e := x1) (nx := 37) (r1 := 0) (r2 := 0) (r3 := 0) rfl rfl ?_
        refine wi_ireturn (nx := 38) (r1 := 0) (r2 := 0) (r3 := 0) rfl rfl ?_
        exact k x1 (by omega) (show -1 ≤ x1 ∧ x1 ≤ 4 by omega) (Or.inr ⟨by omega, by omega, by
            show ((a0.toNat / 16 ^ (x1).toNat % 16 : Nat) : Int) + _ = a2
            rw [← y6_0]
            unfold xc
            split <;> omega⟩)
    ·
      refine wi_iload_n (i := 1) (e := a1) (nx := 13) (r1 := 0) (r2 := 0) (r3 := 0) rfl rfl ?_
      refine wi_iload_n (i := 3) (e := x1) (nx := 14) (r1 := 0) (r2 := 0) (r3 := 0) rfl rfl ?_
      refine wi_icmp (cd := .ne) (nx := 17) (r1 := 21) (r2 := 0) (r3 := 0) rfl (by omega) (by omega) (fun (q6 : a1 ≠ x1) => ?_) (fun (q6 : ¬ (a1 ≠ x1)) => ?_)
      ·
        refine wi_iconst (n := 1) (nx := 22) (r1 := 0) (r2 := 0) (r3 := 0) rfl ?_
        refine wi_istore (i := 4) (e := 1) (lo2 := [(4, vi 1), (0, vi a0), (1, vi a1), (2, vi a2), (3, vi x1)]) (nx := 24) (r1 := 0) (r2 := 0) (r3 := 0) rfl rfl ?_
        refine wi_iload_n (i := 0) (e := a0) (nx := 25) (r1 := 0) (r2 := 0) (r3 := 0) rfl rfl ?_
        refine wi_iload_n (i := 3) (e := x1) (nx := 26) (r1 := 0) (r2 := 0) (r3 := 0) rfl rfl ?_
        refine wi_S (rest := []) (as := [vi a0, vi x1]) (nx := 29) (r1 := 116) (r2 := 18) (r3 := 0) rfl rfl rfl (of_decide_eq_true rfl) rfl rfl (of_decide_eq_true rfl) (of_decide_eq_true rfl) ?_
        refine ct_116 hcr  g a0 x1 (by omega) (by omega)  (fun z8  (fz8 : 0 ≤ z8 ∧ z8 ≤ 15) (p7_0 : 0 ≤ z8 ∧ z8 ≤ 15) y7_0 => ?_)
        refine wk_i ?_
        refine wi_iload (i := 4) (e := 1) (nx := 31) (r1 := 0) (r2 := 0) (r3 := 0) rfl rfl ?_
        refine wr_add (nx := 32) (r1 := 0) (r2 := 0) (r3 := 0) rfl (fun e9 (fe9 : e9 = z8 + 1) => ?_)
        refine wi_iload_n (i := 2) (e := a2) (nx := 33) (r1 := 0) (r2 := 0) (r3 := 0) rfl rfl ?_
        refine wi_icmp (cd := .ne) (nx := 36) (r1 := 38) (r2 := 0) (r3 := 0) rfl (by omega) (by omega) (fun (q10 : e9 ≠ a2) => ?_) (fun (q10 : ¬ (e9 ≠ a2)) => ?_)
        ·
          refine wr_iinc (i := 3) (n := 1) (v := x1) (fun e11 => [(3, vi e11), (4, vi 1), (0, vi a0), (1, vi a1), (2, vi a2)]) (nx := 41) (r1 := 0) (r2 := 0) (r3 := 0) rfl rfl (fun _ => rfl) (fun e11 (fe11 : e11 = x1 + 1) => ?_)
          refine wi_goto (nx := 44) (r1 := 2) (r2 := 0) (r3 := 0) rfl ?_
          refine wp.lo (lo := [(0, vi a0), (1, vi a1), (2, vi a2), (3, vi e11)]) ⟨rfl, rfl, rfl, rfl, trivial⟩ rfl ?_
          exact I2 e11 h ⟨rfl, (show (0 ≤ e11 ∧ e11 ≤ 5) by omega), (fun c h1 => by
              by_cases e1 : (c : Int) = x1
              · have y1 := y7_0
                rw [show (x1).toNat = c by omega] at y1
                unfold xc
                show ((a0.toNat / 16 ^ c % 16 : Nat) : Int) + _ ≠ a2
                rw [← y1]
                split <;> omega
              · exact X2_0 c (by omega))⟩ (show ((5 : Int) + 1 - e11).toNat < ((5 : Int) + 1 - x1).toNat by omega)
        ·
          refine wi_iload_n (i := 3) (e := x1) (nx := 37) (r1 := 0) (r2 := 0) (r3 := 0) rfl rfl ?_
          refine wi_ireturn (nx := 38) (r1 := 0) (r2 := 0) (r3 := 0) rfl rfl ?_
          exact k x1 (by omega) (show -1 ≤ x1 ∧ x1 ≤ 4 by omega) (Or.inr ⟨by omega, by omega, by
              show ((a0.toNat / 16 ^ (x1).toNat % 16 : Nat) : Int) + _ = a2
              rw [← y7_0]
              unfold xc
              split <;> omega⟩)
      ·
        refine wi_iconst (n := 0) (nx := 18) (r1 := 0) (r2 := 0) (r3 := 0) rfl ?_
        refine wi_goto (nx := 21) (r1 := 22) (r2 := 0) (r3 := 0) rfl ?_
        refine wi_istore (i := 4) (e := 0) (lo2 := [(4, vi 0), (0, vi a0), (1, vi a1), (2, vi a2), (3, vi x1)]) (nx := 24) (r1 := 0) (r2 := 0) (r3 := 0) rfl rfl ?_
        refine wi_iload_n (i := 0) (e := a0) (nx := 25) (r1 := 0) (r2 := 0) (r3 := 0) rfl rfl ?_
        refine wi_iload_n (i := 3) (e := x1) (nx := 26) (r1 := 0) (r2 := 0) (r3 := 0) rfl rfl ?_
        refine wi_S (rest := []) (as := [vi a0, vi x1]) (nx := 29) (r1 := 116) (r2 := 18) (r3 := 0) rfl rfl rfl (of_decide_eq_true rfl) rfl rfl (of_decide_eq_true rfl) (of_decide_eq_true rfl) ?_
        refine ct_116 hcr  g a0 x1 (by omega) (by omega)  (fun z8  (fz8 : 0 ≤ z8 ∧ z8 ≤ 15) (p7_0 : 0 ≤ z8 ∧ z8 ≤ 15) y7_0 => ?_)
        refine wk_i ?_
        refine wi_iload (i := 4) (e := 0) (nx := 31) (r1 := 0) (r2 := 0) (r3 := 0) rfl rfl ?_
        refine wr_add (nx := 32) (r1 := 0) (r2 := 0) (r3 := 0) rfl (fun e9 (fe9 : e9 = z8 + 0) => ?_)
        refine wi_iload_n (i := 2) (e := a2) (nx := 33) (r1 := 0) (r2 := 0) (r3 := 0) rfl rfl ?_
        refine wi_icmp (cd := .ne) (nx := 36) (r1 := 38) (r2 := 0) (r3 := 0) rfl (by omega) (by omega) (fun (q10 : e9 ≠ a2) => ?_) (fun (q10 : ¬ (e9 ≠ a2)) => ?_)
        ·
          refine wr_iinc (i := 3) (n := 1) (v := x1) (fun e11 => [(3, vi e11), (4, vi 0), (0, vi a0), (1, vi a1), (2, vi a2)]) (nx := 41) (r1 := 0) (r2 := 0) (r3 := 0) rfl rfl (fun _ => rfl) (fun e11 (fe11 : e11 = x1 + 1) => ?_)
          refine wi_goto (nx := 44) (r1 := 2) (r2 := 0) (r3 := 0) rfl ?_
          refine wp.lo (lo := [(0, vi a0), (1, vi a1), (2, vi a2), (3, vi e11)]) ⟨rfl, rfl, rfl, rfl, trivial⟩ rfl ?_
          exact I2 e11 h ⟨rfl, (show (0 ≤ e11 ∧ e11 ≤ 5) by omega), (fun c h1 => by
              by_cases e1 : (c : Int) = x1
              · have y1 := y7_0
                rw [show (x1).toNat = c by omega] at y1
                unfold xc
                show ((a0.toNat / 16 ^ c % 16 : Nat) : Int) + _ ≠ a2
                rw [← y1]
                split <;> omega
              · exact X2_0 c (by omega))⟩ (show ((5 : Int) + 1 - e11).toNat < ((5 : Int) + 1 - x1).toNat by omega)
        ·
          refine wi_iload_n (i := 3) (e := x1) (nx := 37) (r1 := 0) (r2 := 0) (r3 := 0) rfl rfl ?_
          refine wi_ireturn (nx := 38) (r1 := 0) (r2 := 0) (r3 := 0) rfl rfl ?_
          exact k x1 (by omega) (show -1 ≤ x1 ∧ x1 ≤ 4 by omega) (Or.inr ⟨by omega, by omega, by
              show ((a0.toNat / 16 ^ (x1).toNat % 16 : Nat) : Int) + _ = a2
              rw [← y7_0]
              unfold xc
              split <;> omega⟩)
-- method 118: Exchange.collectColors()V
set_option maxRecDepth 100000 in
set_option maxHeartbeats 100000000 in
theorem ct_118_63 {L : Nat} {xs : Nat → Int32} {d b c : Nat} {h : hp} {cr : Nat → Nat → Option Nat} {Q : hp_Q} (hcr : CR cr)  (g : GI h)   (pp0 : h 63 4 ≤ 12) (pp1 : h 66 1 = 0) (pp2 : 0 ≤ h 3 9) (xq0 : XG h) (xq1 : (∀ j, j < xK h → 0 ≤ xC h j ∧ xC h j ≤ 4)) (xq2 : h 63 7 = ((xm (xW h 0) : Nat) : Int)) (k : ∀ (h2 : hp) , GI h2 → FR [(64, 64, none), (67, 67, none), (66, 66, some (1, 1))] h h2 → ((0 ≤ h 63 4 ∧ h2 66 1 = h 63 4) ∨ (h 63 4 < 0 ∧ h2 66 1 = 0)) → (MSE (xB h) (h2 67) (xB h) (xC h) (xK h)) → Q (.inl none) (hp_w h2 cr) b c) : wp (md_xa (L, xs)) (d + 18) 118 (0, [(0, .ref 63)], [], hp_w h cr, b, c) Q := by
  have F0 : FR [(64, 64, none), (67, 67, none), (66, 66, some (1, 1))] h h := FR.refl
  have b1 := gi_b (lo := -12) (hi := 12) g 63 4 rfl
  have b2 := gi_b (lo := 0) (hi := 12) g 66 1 rfl
  have b3 := gi_b (lo := -2147483648) (hi := 2147483647) g 3 9 rfl
  have xm15 := (xm_le (xW h 0)).1
  refine wi_iconst (n := 0) (nx := 1) (r1 := 0) (r2 := 0) (r3 := 0) rfl ?_
  refine wi_istore_n (i := 1) (e := 0) (lo2 := [(1, vi 0), (0, .ref 63)]) (nx := 2) (r1 := 0) (r2 := 0) (r3 := 0) rfl rfl ?_
  refine wi_aload_n (i := 0) (x := 63) (nx := 3) (r1 := 0) (r2 := 0) (r3 := 0) rfl rfl ?_
  have b4 := gi_b (lo := -2147483648) (hi := 2147483647) g 63 7 rfl
  refine wr_gi0 (k0 := 63) (x := h 63 7) (nx := 6) (r1 := 7) (r2 := 7) (r3 := 0) rfl rfl (by decide) rfl ⟨rfl, rfl⟩ rfl rfl ?_
  refine wi_istore_n (i := 2) (e := h 63 7) (lo2 := [(2, vi (h 63 7)), (1, vi 0), (0, .ref 63)]) (nx := 7) (r1 := 0) (r2 := 0) (r3 := 0) rfl rfl ?_
  refine wi_iconst (n := 0) (nx := 8) (r1 := 0) (r2 := 0) (r3 := 0) rfl ?_
  refine wi_istore_n (i := 3) (e := 0) (lo2 := [(3, vi 0), (2, vi (h 63 7)), (1, vi 0), (0, .ref 63)]) (nx := 9) (r1 := 0) (r2 := 0) (r3 := 0) rfl rfl ?_
  refine wp.lo (lo := [(0, .ref 63), (1, vi 0), (2, vi (h 63 7)), (3, vi 0)]) ⟨rfl, rfl, rfl, rfl, trivial⟩ rfl ?_
  refine wl_3 (fun x5 x6 x7 h8 => GI h8 ∧ FR [(64, 64, none), (67, 67, none), (66, 66, some (1, 1))] h h8 ∧ FR [(64, 64, none), (67, 67, none), (66, 66, some (1, 1))] h h8 ∧ ((0 ≤ x5 ∧ x5 ≤ 4095) ∧ (0 ≤ x6 ∧ x6 ≤ 15) ∧ (0 ≤ x7 ∧ x7 ≤ 12) ∧ (0 ≤ x7) ∧ (x7 = 0 ∨ x7 ≤ (h8 63 4)) ∧ ((h8 66 1) = x7)) ∧ (XU (xB h) (xC h) (h8 67) (xK h) (x7).toNat (x5).toNat) ∧ (XMp (xC h) (xB h) (xK h) (h 3 9) (h8 64)) ∧ (((x7).toNat < xK h) → XE (xw (xC h) (xB h) (xK h) (h 3 9) (xK h - (x7).toNat) (x5).toNat) (xl (h8 67) (x7).toNat) x6)) (fun x5 x6 x7 h8 => ((12 : Int) + 1 - x7).toNat) (fun x5 x6 x7 h8 => (9, [(0, .ref 63), (1, vi x5), (2, vi x6), (3, vi x7)], [], hp_w h8 cr, b, c)) ?_ 0 (h 63 7) 0 h ⟨g, F0, FR.refl, (show (0 ≤ 0 ∧ 0 ≤ 4095) ∧ (0 ≤ (h 63 7) ∧ (h 63 7) ≤ 15) ∧ (0 ≤ 0 ∧ 0 ≤ 12) ∧ (0 ≤ 0) ∧ (0 = 0 ∨ 0 ≤ (h 63 4)) ∧ ((h 66 1) = 0) by omega), XU.zero, xq0.2, (fun _ => XE_first (h := h) (by unfold xK; omega) (by omega) xq1 (show h 63 7 = _ from xq2))⟩
  intro x5 x6 x7 h8 ⟨g8, F9, u8, f8, X8_0, X8_1, X8_2⟩ I8
  have e10 : h8 63 4 = h 63 4 := (u8 63 4 rfl)
  have b11 := gi_b (lo := 0) (hi := 12) g8 66 1 rfl
  refine wi_iload_n (i := 3) (e := x7) (nx := 10) (r1 := 0) (r2 := 0) (r3 := 0) rfl rfl ?_
  refine wi_aload_n (i := 0) (x := 63) (nx := 11) (r1 := 0) (r2 := 0) (r3 := 0) rfl rfl ?_
  refine wr_gi0 (k0 := 63) (x := h 63 4) (nx := 14) (r1 := 7) (r2 := 4) (r3 := 0) rfl rfl (by decide) rfl ⟨rfl, rfl⟩ rfl (u8 63 4 rfl) ?_
  refine wi_icmp (cd := .ge) (nx := 17) (r1 := 87) (r2 := 0) (r3 := 0) rfl (by omega) (by omega) (fun (q12 : (h 63 4) ≤ x7) => ?_) (fun (q12 : ¬ ((h 63 4) ≤ x7)) => ?_)
  ·
    refine wi_return (nx := 88) (r1 := 0) (r2 := 0) (r3 := 0) rfl rfl ?_
    have q13 : h8 67 = h8 67 := funext (fun i => rfl)
    exact k h8 g8 F9 (show (0 ≤ (h 63 4) ∧ (h8 66 1) = (h 63 4)) ∨ ((h 63 4) < 0 ∧ (h8 66 1) = 0) by omega) (by rw [q13]; have xh1 := X8_0; rw [show (x7).toNat = xK h by unfold xK; omega] at xh1; exact XU.all xh1)
  ·
    have jk : xK h ≤ 12 := by unfold xK; omega
    have jc : (x7).toNat < xK h := by unfold xK; omega
    have xe := X8_2 jc
    obtain ⟨xu1, xu2, -⟩ := id X8_0
    have h12 : (2 : Nat) ^ 12 = 4096 := by decide
    have xpc : pc (x5).toNat = (x7).toNat := (pc_xn (by omega)).trans ((xn_ext jk xu1).trans xu2)
    have jr : xK h - (x7).toNat = xK h - ((x7).toNat + 1) + 1 := by omega
    refine wi_aload_n (i := 0) (x := 63) (nx := 18) (r1 := 0) (r2 := 0) (r3 := 0) rfl rfl ?_
    refine wi_iload_n (i := 3) (e := x7) (nx := 19) (r1 := 0) (r2 := 0) (r3 := 0) rfl rfl ?_
    refine wi_iload_n (i := 1) (e := x5) (nx := 20) (r1 := 0) (r2 := 0) (r3 := 0) rfl rfl ?_
    refine wr_V (k0 := 63) (rest := []) (as := [.ref 63, vi x7, vi x5]) (nx := 23) (r1 := 114) (r2 := 2) (r3 := 7) rfl rfl rfl (of_decide_eq_true rfl) rfl rfl (by decide) rfl rfl (of_decide_eq_true rfl) (of_decide_eq_true rfl) ?_
    have q16 : h8 19 = h 19 := funext (fun i => (u8 19 i (fo_no_ok (by decide) i)))
    have q17 : h8 8 = h 8 := funext (fun i => (u8 8 i (fo_no_ok (by decide) i)))
    have q18 : h8 65 = h 65 := funext (fun i => (u8 65 i (fo_no_ok (by decide) i)))
    have q19 : h8 64 = h8 64 := funext (fun i => rfl)
    have xg15 : XG h8 := XG.at q16 q17 (u8 18 7 rfl) (u8 63 4 rfl) (u8 3 9 rfl) q18 xq0.1 (by rw [q19]; exact X8_1)
    have ck20 : xK h8 = xK h := xK_eq (u8 63 4 rfl)
    refine ct_114_63 hcr  g8 x7 x5 (by omega) (by omega) (show (h8 63 4) ≤ 12 by omega) (show x7 = 0 ∨ x7 ≤ (h8 63 4) by omega) xg15 ⟨by rw [xpc], by rw [ck20]; exact xu1⟩ (fun h13 z14 g13 u13 (fz14 : -2147483648 ≤ z14 ∧ z14 ≤ 2147483647) y13_0 y13_1 => ?_)
    have F21 := F9.then (by decide +kernel) u13
    have F22 := u8.then (by decide +kernel) u13
    have q24 : h8 19 = h 19 := funext (fun i => (u8 19 i (fo_no_ok (by decide) i)))
    have q25 : h8 8 = h 8 := funext (fun i => (u8 8 i (fo_no_ok (by decide) i)))
    have q26 : h13 19 = h 19 := funext (fun i => ((u13 19 i (fo_no_ok (by decide) i)).trans (u8 19 i (fo_no_ok (by decide) i))))
    have q27 : h13 8 = h 8 := funext (fun i => ((u13 8 i (fo_no_ok (by decide) i)).trans (u8 8 i (fo_no_ok (by decide) i))))
    have wv23 : z14 = ((xp (xW h (x5).toNat) 5 : Nat) : Int) := by rw [← xW_eq q24 q25 (u8 18 7 rfl) (u8 63 4 rfl) (u8 3 9 rfl)]; exact y13_0
    have wv23m := XG.to q26 q27 ((u13 18 7 rfl).trans (u8 18 7 rfl)) ((u13 63 4 rfl).trans (u8 63 4 rfl)) ((u13 3 9 rfl).trans (u8 3 9 rfl)) y13_1
    have wv23l := xp_lt (f := xW h (x5).toNat) (fun c => xW_le _ _ c) 5
    have wv23b : 0 ≤ z14 ∧ z14 ≤ 1048575 := by rw [wv23]; have h16 : 16 ^ 5 = 1048576 := (by decide); omega
    refine wk_i ?_
    refine wi_istore (i := 4) (e := z14) (lo2 := [(4, vi z14), (0, .ref 63), (1, vi x5), (2, vi x6), (3, vi x7)]) (nx := 25) (r1 := 0) (r2 := 0) (r3 := 0) rfl rfl ?_
    refine wi_iload (i := 4) (e := z14) (nx := 27) (r1 := 0) (r2 := 0) (r3 := 0) rfl rfl ?_
    refine wi_aload_n (i := 0) (x := 63) (nx := 28) (r1 := 0) (r2 := 0) (r3 := 0) rfl rfl ?_
    refine wr_gr (k0 := 63) (x := 66) (nx := 31) (r1 := 7) (r2 := 6) (r3 := 0) rfl rfl (by decide) rfl ⟨rfl, rfl⟩ rfl ?_
    refine wr_V (k0 := 66) (rest := [vi z14]) (as := [.ref 66]) (nx := 34) (r1 := 97) (r2 := 0) (r3 := 5) rfl rfl rfl (of_decide_eq_true rfl) rfl rfl (by decide) rfl rfl (of_decide_eq_true rfl) (of_decide_eq_true rfl) ?_
    refine wi_aload_n (i := 0) (x := 66) (nx := 1) (r1 := 0) (r2 := 0) (r3 := 0) rfl rfl ?_
    refine wr_gi0 (k0 := 66) (x := h8 66 1) (nx := 4) (r1 := 5) (r2 := 1) (r3 := 0) rfl rfl (by decide) rfl ⟨rfl, rfl⟩ rfl (u13 66 1 rfl) ?_
    refine wi_if (cd := .le) (nx := 7) (r1 := 21) (r2 := 0) (r3 := 0) rfl (by omega) (fun (q28 : (h8 66 1) ≤ 0) => ?_) (fun (q28 : ¬ ((h8 66 1) ≤ 0)) => ?_)
    ·
      refine wi_iconst (n := (-1)) (nx := 22) (r1 := 0) (r2 := 0) (r3 := 0) rfl ?_
      refine wi_ireturn (nx := 23) (r1 := 0) (r2 := 0) (r3 := 0) rfl rfl ?_
      refine wk_i ?_
      refine wi_iload_n (i := 2) (e := x6) (nx := 35) (r1 := 0) (r2 := 0) (r3 := 0) rfl rfl ?_
      refine wi_S (rest := []) (as := [vi z14, vi (-1), vi x6]) (nx := 38) (r1 := 119) (r2 := 19) (r3 := 0) rfl rfl rfl (of_decide_eq_true rfl) rfl rfl (of_decide_eq_true rfl) (of_decide_eq_true rfl) ?_
      refine ct_119 hcr  g13 z14 (-1) x6 (by omega) (by omega) (by omega)  (fun z30  (fz30 : -1 ≤ z30 ∧ z30 ≤ 4) (p29_0 : -1 ≤ z30 ∧ z30 ≤ 4) y29_0 => ?_)
      refine wk_i ?_
      have lc31w : ∀ c : Nat, c < 5 → (z14).toNat / 16 ^ c % 16 = xW h (x5).toNat c := fun c hc => by rw [wv23]; exact xp_at (f := xW h (x5).toNat) (fun c => xW_le _ _ c) c 5 hc
      have lc31x : XE (xW h (x5).toNat) (-1 : Int) x6 := by rw [show xW h (x5).toNat = xw (xC h) (xB h) (xK h) (h 3 9) (xK h - (x7).toNat) (x5).toNat by unfold xW; rw [xpc]]; rw [show (-1 : Int) = xl (h8 67) (x7).toNat from (by rw [show (x7).toNat = 0 by omega]; rfl)]; exact xe
      have lc31 := XE.low lc31x lc31w y29_0
      refine wi_istore (i := 5) (e := z30) (lo2 := [(5, vi z30), (4, vi z14), (0, .ref 63), (1, vi x5), (2, vi x6), (3, vi x7)]) (nx := 40) (r1 := 0) (r2 := 0) (r3 := 0) rfl rfl ?_
      refine wi_aload_n (i := 0) (x := 63) (nx := 41) (r1 := 0) (r2 := 0) (r3 := 0) rfl rfl ?_
      refine wi_iload (i := 5) (e := z30) (nx := 43) (r1 := 0) (r2 := 0) (r3 := 0) rfl rfl ?_
      refine wi_iload_n (i := 3) (e := x7) (nx := 44) (r1 := 0) (r2 := 0) (r3 := 0) rfl rfl ?_
      refine wi_iload_n (i := 1) (e := x5) (nx := 45) (r1 := 0) (r2 := 0) (r3 := 0) rfl rfl ?_
      refine wr_V (k0 := 63) (rest := []) (as := [.ref 63, vi z30, vi x7, vi x5]) (nx := 48) (r1 := 115) (r2 := 3) (r3 := 7) rfl rfl rfl (of_decide_eq_true rfl) rfl rfl (by decide) rfl rfl (of_decide_eq_true rfl) (of_decide_eq_true rfl) ?_
      have e33 : h13 63 4 = h 63 4 := ((u13 63 4 rfl).trans (u8 63 4 rfl))
      have q36 : h13 19 = h 19 := funext (fun i => ((u13 19 i (fo_no_ok (by decide) i)).trans (u8 19 i (fo_no_ok (by decide) i))))
      have q37 : h13 8 = h 8 := funext (fun i => ((u13 8 i (fo_no_ok (by decide) i)).trans (u8 8 i (fo_no_ok (by decide) i))))
      have q38 : h13 65 = h 65 := funext (fun i => ((u13 65 i (fo_no_ok (by decide) i)).trans (u8 65 i (fo_no_ok (by decide) i))))
      have xj35 : XJp (xC h13) (xB h13) (xK h13) (h13 65) := XJp.at q36 q37 ((u13 18 7 rfl).trans (u8 18 7 rfl)) ((u13 63 4 rfl).trans (u8 63 4 rfl)) ((u13 3 9 rfl).trans (u8 3 9 rfl)) q38 xq0.1
      refine ct_115_63 hcr  g13 z30 x7 x5 (by omega) (by omega) (by omega) (show x7 < (h13 63 4) by omega) (show (h13 63 4) ≤ 12 by omega) xj35 (fun z34  (fz34 : -1 ≤ z34 ∧ z34 ≤ 11) (p32_0 : -1 ≤ z34 ∧ z34 ≤ 11) (p32_1 : 0 ≤ z30 ∨ z34 = -1) y32_0 => ?_)
      refine wk_i ?_
      have q40 : h13 19 = h 19 := funext (fun i => ((u13 19 i (fo_no_ok (by decide) i)).trans (u8 19 i (fo_no_ok (by decide) i))))
      have q41 : h13 8 = h 8 := funext (fun i => ((u13 8 i (fo_no_ok (by decide) i)).trans (u8 8 i (fo_no_ok (by decide) i))))
      have jv39 : z34 = xj (xC h) (xB h) (xK h) (h 3 9) (x7).toNat (((z30).toNat : Nat) : Int) (x5).toNat := by rw [show (((z30).toNat : Nat) : Int) = z30 by omega, ← xj_eq q40 q41 ((u13 18 7 rfl).trans (u8 18 7 rfl)) ((u13 63 4 rfl).trans (u8 63 4 rfl)) ((u13 3 9 rfl).trans (u8 3 9 rfl))]; exact y32_0 (by omega)
      have jv39n := XE.go (h := h) (u := (x5).toNat) (p := (x7).toNat) (c := (z30).toNat) (v := x6) jr xpc (by omega) lc31.2.2 xe.1
      have jv39m : z34 ≠ -1 := by rw [jv39]; exact jv39n.1
      refine wi_istore (i := 6) (e := z34) (lo2 := [(6, vi z34), (5, vi z30), (4, vi z14), (0, .ref 63), (1, vi x5), (2, vi x6), (3, vi x7)]) (nx := 50) (r1 := 0) (r2 := 0) (r3 := 0) rfl rfl ?_
      refine wi_iload (i := 6) (e := z34) (nx := 52) (r1 := 0) (r2 := 0) (r3 := 0) rfl rfl ?_
      refine wi_iconst (n := (-1)) (nx := 53) (r1 := 0) (r2 := 0) (r3 := 0) rfl ?_
      refine wi_icmp (cd := .ne) (nx := 56) (r1 := 57) (r2 := 0) (r3 := 0) rfl (by omega) (by omega) (fun (q42 : z34 ≠ (-1)) => ?_) (fun (q42 : ¬ (z34 ≠ (-1))) => ?_)
      ·
        obtain ⟨jv39j, jv39e, jv39k, jv39c, jv39b, jv39u⟩ := xj_ok jk jv39n.1
        have jv39z : (z34).toNat = jv39j := by rw [jv39, jv39e]; rfl
        have jv39o := bit_or (s := (x5).toNat) (j := jv39j) (by omega) (by omega) jv39u
        refine wi_aload_n (i := 0) (x := 63) (nx := 58) (r1 := 0) (r2 := 0) (r3 := 0) rfl rfl ?_
        refine wr_gr (k0 := 63) (x := 66) (nx := 61) (r1 := 7) (r2 := 6) (r3 := 0) rfl rfl (by decide) rfl ⟨rfl, rfl⟩ rfl ?_
        refine wi_iload (i := 5) (e := z30) (nx := 63) (r1 := 0) (r2 := 0) (r3 := 0) rfl rfl ?_
        refine wr_V (k0 := 66) (rest := []) (as := [.ref 66, vi z30]) (nx := 66) (r1 := 99) (r2 := 1) (r3 := 5) rfl rfl rfl (of_decide_eq_true rfl) rfl rfl (by decide) rfl rfl (of_decide_eq_true rfl) (of_decide_eq_true rfl) ?_
        refine wi_aload_n (i := 0) (x := 66) (nx := 1) (r1 := 0) (r2 := 0) (r3 := 0) rfl rfl ?_
        refine wr_gi0 (k0 := 66) (x := h8 66 1) (nx := 4) (r1 := 5) (r2 := 1) (r3 := 0) rfl rfl (by decide) rfl ⟨rfl, rfl⟩ rfl (u13 66 1 rfl) ?_
        refine wi_aload_n (i := 0) (x := 66) (nx := 5) (r1 := 0) (r2 := 0) (r3 := 0) rfl rfl ?_
        refine wr_gr (k0 := 66) (x := 67) (nx := 8) (r1 := 5) (r2 := 0) (r3 := 0) rfl rfl (by decide) rfl ⟨rfl, rfl⟩ rfl ?_
        refine wr_al (k0 := 67) (e := 12) (nx := 9) (r1 := 0) (r2 := 0) (r3 := 0) rfl (by decide) rfl rfl ?_
        refine wi_icmp (cd := .ge) (nx := 12) (r1 := 32) (r2 := 0) (r3 := 0) rfl (by omega) (by omega) (fun (q43 : 12 ≤ (h8 66 1)) => by exfalso; omega) (fun (q43 : ¬ (12 ≤ (h8 66 1))) => ?_)
        refine wi_aload_n (i := 0) (x := 66) (nx := 13) (r1 := 0) (r2 := 0) (r3 := 0) rfl rfl ?_
        refine wr_gr (k0 := 66) (x := 67) (nx := 16) (r1 := 5) (r2 := 0) (r3 := 0) rfl rfl (by decide) rfl ⟨rfl, rfl⟩ rfl ?_
        refine wi_aload_n (i := 0) (x := 66) (nx := 17) (r1 := 0) (r2 := 0) (r3 := 0) rfl rfl ?_
        refine wr_gi0 (k0 := 66) (x := h8 66 1) (nx := 20) (r1 := 5) (r2 := 1) (r3 := 0) rfl rfl (by decide) rfl ⟨rfl, rfl⟩ rfl (u13 66 1 rfl) ?_
        refine wi_iload_n (i := 1) (e := z30) (nx := 21) (r1 := 0) (r2 := 0) (r3 := 0) rfl rfl ?_
        obtain ⟨i44, ei44⟩ : ∃ q : Nat, (h8 66 1) = (q : Int) := ⟨(h8 66 1).toNat, by omega⟩
        refine wr_is (k0 := 67) (a := h8 66 1) (f := i44) (x := z30) (bl := -2147483648) (bh := 2147483647) (nx := 22) (r1 := 0) (r2 := 0) (r3 := 0) rfl (by decide) rfl (by omega) (by omega) (by decide) g13 rfl (by omega) (fun h45 g45 w45 u45 => ?_)
        have F46 := F21.then rfl (FR.rngp (lo := 67) (hi := 67) u45 (by decide))
        have F47 := F22.then rfl (FR.rngp (lo := 67) (hi := 67) u45 (by decide))
        refine wi_aload_n (i := 0) (x := 66) (nx := 23) (r1 := 0) (r2 := 0) (r3 := 0) rfl rfl ?_
        refine wi_dup (nx := 24) (r1 := 0) (r2 := 0) (r3 := 0) rfl rfl ?_
        refine wr_gi0 (k0 := 66) (x := h8 66 1) (nx := 27) (r1 := 5) (r2 := 1) (r3 := 0) rfl rfl (by decide) rfl ⟨rfl, rfl⟩ rfl ((u45 66 1 (fn_a (by omega) fn_0)).trans (u13 66 1 rfl)) ?_
        refine wi_iconst (n := 1) (nx := 28) (r1 := 0) (r2 := 0) (r3 := 0) rfl ?_
        refine wr_add (nx := 29) (r1 := 0) (r2 := 0) (r3 := 0) rfl (fun e48 (fe48 : e48 = (h8 66 1) + 1) => ?_)
        refine wr_pf0 (k0 := 66) (x := e48) (bl := 0) (bh := 12) (nx := 32) (r1 := 5) (r2 := 1) (r3 := 0) rfl (by decide) rfl ⟨rfl, rfl⟩ rfl rfl g45 rfl (by omega) (fun h49 g49 w49 u49 => ?_)
        have F50 := F46.then rfl u49
        have F51 := F47.then rfl u49
        refine wi_return (nx := 33) (r1 := 0) (r2 := 0) (r3 := 0) rfl rfl ?_
        refine wk_n ?_
        refine wi_iload_n (i := 1) (e := x5) (nx := 67) (r1 := 0) (r2 := 0) (r3 := 0) rfl rfl ?_
        refine wi_iconst (n := 1) (nx := 68) (r1 := 0) (r2 := 0) (r3 := 0) rfl ?_
        refine wi_iload (i := 6) (e := z34) (nx := 70) (r1 := 0) (r2 := 0) (r3 := 0) rfl rfl ?_
        refine wr_ishl1 (y := z34) (nx := 71) (r1 := 0) (r2 := 0) (r3 := 0) rfl (by omega) (fun e52 (fe52 : 1 ≤ e52 ∧ e52 ≤ 4096) ve52 => ?_)
        have ke52 : e52 ≤ 2048 := by rw [ve52]; have := Nat.pow_le_pow_right (show 0 < 2 by decide) (show (z34).toNat ≤ 11 by omega); omega
        refine wr_iorN (x := x5) (y := e52) 12 4096 (by decide) (by decide) (nx := 72) (r1 := 0) (r2 := 0) (r3 := 0) rfl (by omega) (by omega) (fun e53 (fe53 : 0 ≤ e53 ∧ e53 < 4096) ve53 => ?_)
        have we53 : (e53).toNat = (x5).toNat ||| 2 ^ jv39j := by rw [ve53, ve52, jv39z]; rfl
        refine wi_istore_n (i := 1) (e := e53) (lo2 := [(1, vi e53), (6, vi z34), (5, vi z30), (4, vi z14), (0, .ref 63), (2, vi x6), (3, vi x7)]) (nx := 73) (r1 := 0) (r2 := 0) (r3 := 0) rfl rfl ?_
        refine wi_iload (i := 4) (e := z14) (nx := 75) (r1 := 0) (r2 := 0) (r3 := 0) rfl rfl ?_
        refine wi_iload (i := 5) (e := z30) (nx := 77) (r1 := 0) (r2 := 0) (r3 := 0) rfl rfl ?_
        refine wi_S (rest := []) (as := [vi z14, vi z30]) (nx := 80) (r1 := 116) (r2 := 18) (r3 := 0) rfl rfl rfl (of_decide_eq_true rfl) rfl rfl (of_decide_eq_true rfl) (of_decide_eq_true rfl) ?_
        refine ct_116 hcr  g49 z14 z30 (by omega) (by omega)  (fun z55  (fz55 : 0 ≤ z55 ∧ z55 ≤ 15) (p54_0 : 0 ≤ z55 ∧ z55 ≤ 15) y54_0 => ?_)
        refine wk_i ?_
        refine wi_istore_n (i := 2) (e := z55) (lo2 := [(2, vi z55), (1, vi e53), (6, vi z34), (5, vi z30), (4, vi z14), (0, .ref 63), (3, vi x7)]) (nx := 81) (r1 := 0) (r2 := 0) (r3 := 0) rfl rfl ?_
        refine wr_iinc (i := 3) (n := 1) (v := x7) (fun e56 => [(3, vi e56), (2, vi z55), (1, vi e53), (6, vi z34), (5, vi z30), (4, vi z14), (0, .ref 63)]) (nx := 84) (r1 := 0) (r2 := 0) (r3 := 0) rfl rfl (fun _ => rfl) (fun e56 (fe56 : e56 = x7 + 1) => ?_)
        refine wi_goto (nx := 87) (r1 := 9) (r2 := 0) (r3 := 0) rfl ?_
        have e57 : h49 63 4 = h 63 4 := ((u49 63 4 rfl).trans ((u45 63 4 (fn_a (by omega) fn_0)).trans ((u13 63 4 rfl).trans (u8 63 4 rfl))))
        have e58 : h49 66 1 = e48 := w49
        refine wp.lo (lo := [(0, .ref 63), (1, vi e53), (2, vi z55), (3, vi e56)]) ⟨rfl, rfl, rfl, rfl, trivial⟩ rfl ?_
        have q59 : h49 67 = h45 67 := funext (fun i => (u49 67 i rfl))
        have q60 : h13 67 = h8 67 := funext (fun i => (u13 67 i (fo_no_ok (by decide) i)))
        have dd61 : h49 67 (x7).toNat = z30 ∧ ∀ i, i < (x7).toNat → h49 67 i = h8 67 i := ⟨by rw [q59, show (x7).toNat = i44 by omega]; exact w45, fun i hi => by rw [q59, u45 67 i (fn_i (by omega) fn_0), q60]⟩
        have q62 : h49 64 = h13 64 := funext (fun i => ((u49 64 i rfl).trans (u45 64 i (fn_a (by omega) fn_0))))
        have q63 : h49 67 = h45 67 := funext (fun i => (u49 67 i rfl))
        have q64 : h13 67 = h8 67 := funext (fun i => (u13 67 i (fo_no_ok (by decide) i)))
        have dd65 : h49 67 (x7).toNat = z30 ∧ ∀ i, i < (x7).toNat → h49 67 i = h8 67 i := ⟨by rw [q63, show (x7).toNat = i44 by omega]; exact w45, fun i hi => by rw [q63, u45 67 i (fn_i (by omega) fn_0), q64]⟩
        exact I8 e53 z55 e56 h49 ⟨g49, F50, F51, (show (0 ≤ e53 ∧ e53 ≤ 4095) ∧ (0 ≤ z55 ∧ z55 ≤ 15) ∧ (0 ≤ e56 ∧ e56 ≤ 12) ∧ (0 ≤ e56) ∧ (e56 = 0 ∨ e56 ≤ (h49 63 4)) ∧ ((h49 66 1) = e56) by omega), (by rw [show (e56).toNat = (x7).toNat + 1 by omega, show (e53).toNat = (x5).toNat ||| 2 ^ jv39j from we53]; exact XU.add (XU.congr X8_0 dd61.2) jk jv39k jv39u jv39b (by rw [dd61.1, jv39c]; omega)), (by rw [q62]; exact wv23m), (fun h1 => by
            rw [show (e56).toNat = (x7).toNat + 1 by omega, show (e53).toNat = (x5).toNat ||| 2 ^ jv39j from we53]
            show XE _ (h49 67 (x7).toNat) _
            have xh1 := jv39n.2
            rw [jv39e] at xh1
            rw [dd65.1, show z55 = ((xW h (x5).toNat (z30).toNat : Nat) : Int) by rw [y54_0]; exact congrArg Int.ofNat (lc31w (z30).toNat (by omega)), show z30 = (((z30).toNat : Nat) : Int) by omega]
            exact xh1)⟩ (show ((12 : Int) + 1 - e56).toNat < ((12 : Int) + 1 - x7).toNat by omega)
      ·
        exfalso; omega
    ·
      refine wi_aload_n (i := 0) (x := 66) (nx := 8) (r1 := 0) (r2 := 0) (r3 := 0) rfl rfl ?_
      refine wr_gr (k0 := 66) (x := 67) (nx := 11) (r1 := 5) (r2 := 0) (r3 := 0) rfl rfl (by decide) rfl ⟨rfl, rfl⟩ rfl ?_
      refine wi_aload_n (i := 0) (x := 66) (nx := 12) (r1 := 0) (r2 := 0) (r3 := 0) rfl rfl ?_
      refine wr_gi0 (k0 := 66) (x := h8 66 1) (nx := 15) (r1 := 5) (r2 := 1) (r3 := 0) rfl rfl (by decide) rfl ⟨rfl, rfl⟩ rfl (u13 66 1 rfl) ?_
      refine wi_iconst (n := 1) (nx := 16) (r1 := 0) (r2 := 0) (r3 := 0) rfl ?_
      refine wr_sub (nx := 17) (r1 := 0) (r2 := 0) (r3 := 0) rfl (fun e29 (fe29 : e29 = (h8 66 1) - 1) => ?_)
      obtain ⟨i30, ei30⟩ : ∃ q : Nat, e29 = (q : Int) := ⟨(e29).toNat, by omega⟩
      have b31 := gi_b (lo := -2147483648) (hi := 2147483647) g8 67 i30 rfl
      refine wr_ia (k0 := 67) (a := e29) (f := i30) (x := h8 67 i30) (nx := 18) (r1 := 0) (r2 := 0) (r3 := 0) rfl (by decide) rfl (by omega) (by omega) (by decide) (u13 67 i30 (fn_a (by omega) fn_0)) ?_
      refine wi_goto (nx := 21) (r1 := 22) (r2 := 0) (r3 := 0) rfl ?_
      refine wi_ireturn (nx := 23) (r1 := 0) (r2 := 0) (r3 := 0) rfl rfl ?_
      refine wk_i ?_
      refine wi_iload_n (i := 2) (e := x6) (nx := 35) (r1 := 0) (r2 := 0) (r3 := 0) rfl rfl ?_
      refine wi_S (rest := []) (as := [vi z14, vi (h8 67 i30), vi x6]) (nx := 38) (r1 := 119) (r2 := 19) (r3 := 0) rfl rfl rfl (of_decide_eq_true rfl) rfl rfl (of_decide_eq_true rfl) (of_decide_eq_true rfl) ?_
      refine ct_119 hcr  g13 z14 (h8 67 i30) x6 (by omega) (by omega) (by omega)  (fun z33  (fz33 : -1 ≤ z33 ∧ z33 ≤ 4) (p32_0 : -1 ≤ z33 ∧ z33 ≤ 4) y32_0 => ?_)
      refine wk_i ?_
      have lc34w : ∀ c : Nat, c < 5 → (z14).toNat / 16 ^ c % 16 = xW h (x5).toNat c := fun c hc => by rw [wv23]; exact xp_at (f := xW h (x5).toNat) (fun c => xW_le _ _ c) c 5 hc
      have lc34x : XE (xW h (x5).toNat) (h8 67 i30) x6 := by rw [show xW h (x5).toNat = xw (xC h) (xB h) (xK h) (h 3 9) (xK h - (x7).toNat) (x5).toNat by unfold xW; rw [xpc]]; rw [show (h8 67 i30) = xl (h8 67) (x7).toNat from (by rw [show (x7).toNat = i30 + 1 by omega]; rfl)]; exact xe
      have lc34 := XE.low lc34x lc34w y32_0
      refine wi_istore (i := 5) (e := z33) (lo2 := [(5, vi z33), (4, vi z14), (0, .ref 63), (1, vi x5), (2, vi x6), (3, vi x7)]) (nx := 40) (r1 := 0) (r2 := 0) (r3 := 0) rfl rfl ?_
      refine wi_aload_n (i := 0) (x := 63) (nx := 41) (r1 := 0) (r2 := 0) (r3 := 0) rfl rfl ?_
      refine wi_iload (i := 5) (e := z33) (nx := 43) (r1 := 0) (r2 := 0) (r3 := 0) rfl rfl ?_
      refine wi_iload_n (i := 3) (e := x7) (nx := 44) (r1 := 0) (r2 := 0) (r3 := 0) rfl rfl ?_
      refine wi_iload_n (i := 1) (e := x5) (nx := 45) (r1 := 0) (r2 := 0) (r3 := 0) rfl rfl ?_
      refine wr_V (k0 := 63) (rest := []) (as := [.ref 63, vi z33, vi x7, vi x5]) (nx := 48) (r1 := 115) (r2 := 3) (r3 := 7) rfl rfl rfl (of_decide_eq_true rfl) rfl rfl (by decide) rfl rfl (of_decide_eq_true rfl) (of_decide_eq_true rfl) ?_
      have e36 : h13 63 4 = h 63 4 := ((u13 63 4 rfl).trans (u8 63 4 rfl))
      have q39 : h13 19 = h 19 := funext (fun i => ((u13 19 i (fo_no_ok (by decide) i)).trans (u8 19 i (fo_no_ok (by decide) i))))
      have q40 : h13 8 = h 8 := funext (fun i => ((u13 8 i (fo_no_ok (by decide) i)).trans (u8 8 i (fo_no_ok (by decide) i))))
      have q41 : h13 65 = h 65 := funext (fun i => ((u13 65 i (fo_no_ok (by decide) i)).trans (u8 65 i (fo_no_ok (by decide) i))))
      have xj38 : XJp (xC h13) (xB h13) (xK h13) (h13 65) := XJp.at q39 q40 ((u13 18 7 rfl).trans (u8 18 7 rfl)) ((u13 63 4 rfl).trans (u8 63 4 rfl)) ((u13 3 9 rfl).trans (u8 3 9 rfl)) q41 xq0.1
      refine ct_115_63 hcr  g13 z33 x7 x5 (by omega) (by omega) (by omega) (show x7 < (h13 63 4) by omega) (show (h13 63 4) ≤ 12 by omega) xj38 (fun z37  (fz37 : -1 ≤ z37 ∧ z37 ≤ 11) (p35_0 : -1 ≤ z37 ∧ z37 ≤ 11) (p35_1 : 0 ≤ z33 ∨ z37 = -1) y35_0 => ?_)
      refine wk_i ?_
      have q43 : h13 19 = h 19 := funext (fun i => ((u13 19 i (fo_no_ok (by decide) i)).trans (u8 19 i (fo_no_ok (by decide) i))))
      have q44 : h13 8 = h 8 := funext (fun i => ((u13 8 i (fo_no_ok (by decide) i)).trans (u8 8 i (fo_no_ok (by decide) i))))
      have jv42 : z37 = xj (xC h) (xB h) (xK h) (h 3 9) (x7).toNat (((z33).toNat : Nat) : Int) (x5).toNat := by rw [show (((z33).toNat : Nat) : Int) = z33 by omega, ← xj_eq q43 q44 ((u13 18 7 rfl).trans (u8 18 7 rfl)) ((u13 63 4 rfl).trans (u8 63 4 rfl)) ((u13 3 9 rfl).trans (u8 3 9 rfl))]; exact y35_0 (by omega)
      have jv42n := XE.go (h := h) (u := (x5).toNat) (p := (x7).toNat) (c := (z33).toNat) (v := x6) jr xpc (by omega) lc34.2.2 xe.1
      have jv42m : z37 ≠ -1 := by rw [jv42]; exact jv42n.1
      refine wi_istore (i := 6) (e := z37) (lo2 := [(6, vi z37), (5, vi z33), (4, vi z14), (0, .ref 63), (1, vi x5), (2, vi x6), (3, vi x7)]) (nx := 50) (r1 := 0) (r2 := 0) (r3 := 0) rfl rfl ?_
      refine wi_iload (i := 6) (e := z37) (nx := 52) (r1 := 0) (r2 := 0) (r3 := 0) rfl rfl ?_
      refine wi_iconst (n := (-1)) (nx := 53) (r1 := 0) (r2 := 0) (r3 := 0) rfl ?_
      refine wi_icmp (cd := .ne) (nx := 56) (r1 := 57) (r2 := 0) (r3 := 0) rfl (by omega) (by omega) (fun (q45 : z37 ≠ (-1)) => ?_) (fun (q45 : ¬ (z37 ≠ (-1))) => ?_)
      ·
        obtain ⟨jv42j, jv42e, jv42k, jv42c, jv42b, jv42u⟩ := xj_ok jk jv42n.1
        have jv42z : (z37).toNat = jv42j := by rw [jv42, jv42e]; rfl
        have jv42o := bit_or (s := (x5).toNat) (j := jv42j) (by omega) (by omega) jv42u
        refine wi_aload_n (i := 0) (x := 63) (nx := 58) (r1 := 0) (r2 := 0) (r3 := 0) rfl rfl ?_
        refine wr_gr (k0 := 63) (x := 66) (nx := 61) (r1 := 7) (r2 := 6) (r3 := 0) rfl rfl (by decide) rfl ⟨rfl, rfl⟩ rfl ?_
        refine wi_iload (i := 5) (e := z33) (nx := 63) (r1 := 0) (r2 := 0) (r3 := 0) rfl rfl ?_
        refine wr_V (k0 := 66) (rest := []) (as := [.ref 66, vi z33]) (nx := 66) (r1 := 99) (r2 := 1) (r3 := 5) rfl rfl rfl (of_decide_eq_true rfl) rfl rfl (by decide) rfl rfl (of_decide_eq_true rfl) (of_decide_eq_true rfl) ?_
        refine wi_aload_n (i := 0) (x := 66) (nx := 1) (r1 := 0) (r2 := 0) (r3 := 0) rfl rfl ?_
        refine wr_gi0 (k0 := 66) (x := h8 66 1) (nx := 4) (r1 := 5) (r2 := 1) (r3 := 0) rfl rfl (by decide) rfl ⟨rfl, rfl⟩ rfl (u13 66 1 rfl) ?_
        refine wi_aload_n (i := 0) (x := 66) (nx := 5) (r1 := 0) (r2 := 0) (r3 := 0) rfl rfl ?_
        refine wr_gr (k0 := 66) (x := 67) (nx := 8) (r1 := 5) (r2 := 0) (r3 := 0) rfl rfl (by decide) rfl ⟨rfl, rfl⟩ rfl ?_
        refine wr_al (k0 := 67) (e := 12) (nx := 9) (r1 := 0) (r2 := 0) (r3 := 0) rfl (by decide) rfl rfl ?_
        refine wi_icmp (cd := .ge) (nx := 12) (r1 := 32) (r2 := 0) (r3 := 0) rfl (by omega) (by omega) (fun (q46 : 12 ≤ (h8 66 1)) => by exfalso; omega) (fun (q46 : ¬ (12 ≤ (h8 66 1))) => ?_)
        refine wi_aload_n (i := 0) (x := 66) (nx := 13) (r1 := 0) (r2 := 0) (r3 := 0) rfl rfl ?_
        refine wr_gr (k0 := 66) (x := 67) (nx := 16) (r1 := 5) (r2 := 0) (r3 := 0) rfl rfl (by decide) rfl ⟨rfl, rfl⟩ rfl ?_
        refine wi_aload_n (i := 0) (x := 66) (nx := 17) (r1 := 0) (r2 := 0) (r3 := 0) rfl rfl ?_
        refine wr_gi0 (k0 := 66) (x := h8 66 1) (nx := 20) (r1 := 5) (r2 := 1) (r3 := 0) rfl rfl (by decide) rfl ⟨rfl, rfl⟩ rfl (u13 66 1 rfl) ?_
        refine wi_iload_n (i := 1) (e := z33) (nx := 21) (r1 := 0) (r2 := 0) (r3 := 0) rfl rfl ?_
        obtain ⟨i47, ei47⟩ : ∃ q : Nat, (h8 66 1) = (q : Int) := ⟨(h8 66 1).toNat, by omega⟩
        refine wr_is (k0 := 67) (a := h8 66 1) (f := i47) (x := z33) (bl := -2147483648) (bh := 2147483647) (nx := 22) (r1 := 0) (r2 := 0) (r3 := 0) rfl (by decide) rfl (by omega) (by omega) (by decide) g13 rfl (by omega) (fun h48 g48 w48 u48 => ?_)
        have F49 := F21.then rfl (FR.rngp (lo := 67) (hi := 67) u48 (by decide))
        have F50 := F22.then rfl (FR.rngp (lo := 67) (hi := 67) u48 (by decide))
        refine wi_aload_n (i := 0) (x := 66) (nx := 23) (r1 := 0) (r2 := 0) (r3 := 0) rfl rfl ?_
        refine wi_dup (nx := 24) (r1 := 0) (r2 := 0) (r3 := 0) rfl rfl ?_
        refine wr_gi0 (k0 := 66) (x := h8 66 1) (nx := 27) (r1 := 5) (r2 := 1) (r3 := 0) rfl rfl (by decide) rfl ⟨rfl, rfl⟩ rfl ((u48 66 1 (fn_a (by omega) fn_0)).trans (u13 66 1 rfl)) ?_
        refine wi_iconst (n := 1) (nx := 28) (r1 := 0) (r2 := 0) (r3 := 0) rfl ?_
        refine wr_add (nx := 29) (r1 := 0) (r2 := 0) (r3 := 0) rfl (fun e51 (fe51 : e51 = (h8 66 1) + 1) => ?_)
        refine wr_pf0 (k0 := 66) (x := e51) (bl := 0) (bh := 12) (nx := 32) (r1 := 5) (r2 := 1) (r3 := 0) rfl (by decide) rfl ⟨rfl, rfl⟩ rfl rfl g48 rfl (by omega) (fun h52 g52 w52 u52 => ?_)
        have F53 := F49.then rfl u52
        have F54 := F50.then rfl u52
        refine wi_return (nx := 33) (r1 := 0) (r2 := 0) (r3 := 0) rfl rfl ?_
        refine wk_n ?_
        refine wi_iload_n (i := 1) (e := x5) (nx := 67) (r1 := 0) (r2 := 0) (r3 := 0) rfl rfl ?_
        refine wi_iconst (n := 1) (nx := 68) (r1 := 0) (r2 := 0) (r3 := 0) rfl ?_
        refine wi_iload (i := 6) (e := z37) (nx := 70) (r1 := 0) (r2 := 0) (r3 := 0) rfl rfl ?_
        refine wr_ishl1 (y := z37) (nx := 71) (r1 := 0) (r2 := 0) (r3 := 0) rfl (by omega) (fun e55 (fe55 : 1 ≤ e55 ∧ e55 ≤ 4096) ve55 => ?_)
        have ke55 : e55 ≤ 2048 := by rw [ve55]; have := Nat.pow_le_pow_right (show 0 < 2 by decide) (show (z37).toNat ≤ 11 by omega); omega
        refine wr_iorN (x := x5) (y := e55) 12 4096 (by decide) (by decide) (nx := 72) (r1 := 0) (r2 := 0) (r3 := 0) rfl (by omega) (by omega) (fun e56 (fe56 : 0 ≤ e56 ∧ e56 < 4096) ve56 => ?_)
        have we56 : (e56).toNat = (x5).toNat ||| 2 ^ jv42j := by rw [ve56, ve55, jv42z]; rfl
        refine wi_istore_n (i := 1) (e := e56) (lo2 := [(1, vi e56), (6, vi z37), (5, vi z33), (4, vi z14), (0, .ref 63), (2, vi x6), (3, vi x7)]) (nx := 73) (r1 := 0) (r2 := 0) (r3 := 0) rfl rfl ?_
        refine wi_iload (i := 4) (e := z14) (nx := 75) (r1 := 0) (r2 := 0) (r3 := 0) rfl rfl ?_
        refine wi_iload (i := 5) (e := z33) (nx := 77) (r1 := 0) (r2 := 0) (r3 := 0) rfl rfl ?_
        refine wi_S (rest := []) (as := [vi z14, vi z33]) (nx := 80) (r1 := 116) (r2 := 18) (r3 := 0) rfl rfl rfl (of_decide_eq_true rfl) rfl rfl (of_decide_eq_true rfl) (of_decide_eq_true rfl) ?_
        refine ct_116 hcr  g52 z14 z33 (by omega) (by omega)  (fun z58  (fz58 : 0 ≤ z58 ∧ z58 ≤ 15) (p57_0 : 0 ≤ z58 ∧ z58 ≤ 15) y57_0 => ?_)
        refine wk_i ?_
        refine wi_istore_n (i := 2) (e := z58) (lo2 := [(2, vi z58), (1, vi e56), (6, vi z37), (5, vi z33), (4, vi z14), (0, .ref 63), (3, vi x7)]) (nx := 81) (r1 := 0) (r2 := 0) (r3 := 0) rfl rfl ?_
        refine wr_iinc (i := 3) (n := 1) (v := x7) (fun e59 => [(3, vi e59), (2, vi z58), (1, vi e56), (6, vi z37), (5, vi z33), (4, vi z14), (0, .ref 63)]) (nx := 84) (r1 := 0) (r2 := 0) (r3 := 0) rfl rfl (fun _ => rfl) (fun e59 (fe59 : e59 = x7 + 1) => ?_)
        refine wi_goto (nx := 87) (r1 := 9) (r2 := 0) (r3 := 0) rfl ?_
        have e60 : h52 63 4 = h 63 4 := ((u52 63 4 rfl).trans ((u48 63 4 (fn_a (by omega) fn_0)).trans ((u13 63 4 rfl).trans (u8 63 4 rfl))))
        have e61 : h52 66 1 = e51 := w52
        refine wp.lo (lo := [(0, .ref 63), (1, vi e56), (2, vi z58), (3, vi e59)]) ⟨rfl, rfl, rfl, rfl, trivial⟩ rfl ?_
        have q62 : h52 67 = h48 67 := funext (fun i => (u52 67 i rfl))
        have q63 : h13 67 = h8 67 := funext (fun i => (u13 67 i (fo_no_ok (by decide) i)))
        have dd64 : h52 67 (x7).toNat = z33 ∧ ∀ i, i < (x7).toNat → h52 67 i = h8 67 i := ⟨by rw [q62, show (x7).toNat = i47 by omega]; exact w48, fun i hi => by rw [q62, u48 67 i (fn_i (by omega) fn_0), q63]⟩
        have q65 : h52 64 = h13 64 := funext (fun i => ((u52 64 i rfl).trans (u48 64 i (fn_a (by omega) fn_0))))
        have q66 : h52 67 = h48 67 := funext (fun i => (u52 67 i rfl))
        have q67 : h13 67 = h8 67 := funext (fun i => (u13 67 i (fo_no_ok (by decide) i)))
        have dd68 : h52 67 (x7).toNat = z33 ∧ ∀ i, i < (x7).toNat → h52 67 i = h8 67 i := ⟨by rw [q66, show (x7).toNat = i47 by omega]; exact w48, fun i hi => by rw [q66, u48 67 i (fn_i (by omega) fn_0), q67]⟩
        exact I8 e56 z58 e59 h52 ⟨g52, F53, F54, (show (0 ≤ e56 ∧ e56 ≤ 4095) ∧ (0 ≤ z58 ∧ z58 ≤ 15) ∧ (0 ≤ e59 ∧ e59 ≤ 12) ∧ (0 ≤ e59) ∧ (e59 = 0 ∨ e59 ≤ (h52 63 4)) ∧ ((h52 66 1) = e59) by omega), (by rw [show (e59).toNat = (x7).toNat + 1 by omega, show (e56).toNat = (x5).toNat ||| 2 ^ jv42j from we56]; exact XU.add (XU.congr X8_0 dd64.2) jk jv42k jv42u jv42b (by rw [dd64.1, jv42c]; omega)), (by rw [q65]; exact wv23m), (fun h1 => by
            rw [show (e59).toNat = (x7).toNat + 1 by omega, show (e56).toNat = (x5).toNat ||| 2 ^ jv42j from we56]
            show XE _ (h52 67 (x7).toNat) _
            have xh1 := jv42n.2
            rw [jv42e] at xh1
            rw [dd68.1, show z58 = ((xW h (x5).toNat (z33).toNat : Nat) : Int) by rw [y57_0]; exact congrArg Int.ofNat (lc34w (z33).toNat (by omega)), show z33 = (((z33).toNat : Nat) : Int) by omega]
            exact xh1)⟩ (show ((12 : Int) + 1 - e59).toNat < ((12 : Int) + 1 - x7).toNat by omega)
      ·
        exfalso; omega
-- method 111: Exchange.plan()V
set_option maxRecDepth 100000 in
set_option maxHeartbeats 100000000 in
theorem ct_111_63 {L : Nat} {xs : Nat → Int32} {d b c : Nat} {h : hp} {cr : Nat → Nat → Option Nat} {Q : hp_Q} (hcr : CR cr)  (g : GI h)   (pp0 : h 63 5 ≤ h 18 16) (pp1 : h 63 5 < h 18 16 ∨ (h 18 7 ≤ h 3 2 ∧ h 66 1 = h 3 2 - h 18 7) ∨ (h 3 2 < h 18 7 ∧ h 66 1 = 0)) (pp2 : 0 ≤ h 3 9) (xq0 : MCL h) (k : ∀ (h2 : hp) , GI h2 → FR [(64, 64, none), (65, 65, none), (67, 67, none), (63, 63, some (4, 5)), (63, 63, some (7, 7)), (66, 66, some (1, 1))] h h2 → (h2 63 5 = h2 18 16) → ((h2 18 7 ≤ h2 3 2 ∧ h2 66 1 = h2 3 2 - h2 18 7) ∨ (h2 3 2 < h2 18 7 ∧ h2 66 1 = 0)) → (XBe h2) → Q (.inl none) (hp_w h2 cr) b c) : wp (md_xa (L, xs)) (d + 19) 111 (0, [(0, .ref 63)], [], hp_w h cr, b, c) Q := by
  have F0 : FR [(64, 64, none), (65, 65, none), (67, 67, none), (63, 63, some (4, 5)), (63, 63, some (7, 7)), (66, 66, some (1, 1))] h h := FR.refl
  have b1 := gi_b (lo := -2147483648) (hi := 2147483647) g 63 5 rfl
  have b2 := gi_b (lo := -2147483648) (hi := 2147483647) g 18 16 rfl
  have b3 := gi_b (lo := 0) (hi := 12) g 18 7 rfl
  have b4 := gi_b (lo := 0) (hi := 12) g 3 2 rfl
  have b5 := gi_b (lo := 0) (hi := 12) g 66 1 rfl
  have b6 := gi_b (lo := -2147483648) (hi := 2147483647) g 3 9 rfl
  refine wi_aload_n (i := 0) (x := 63) (nx := 1) (r1 := 0) (r2 := 0) (r3 := 0) rfl rfl ?_
  refine wr_gi0 (k0 := 63) (x := h 63 5) (nx := 4) (r1 := 7) (r2 := 5) (r3 := 0) rfl rfl (by decide) rfl ⟨rfl, rfl⟩ rfl rfl ?_
  refine wi_aload_n (i := 0) (x := 63) (nx := 5) (r1 := 0) (r2 := 0) (r3 := 0) rfl rfl ?_
  refine wr_gr (k0 := 63) (x := 18) (nx := 8) (r1 := 7) (r2 := 1) (r3 := 0) rfl rfl (by decide) rfl ⟨rfl, rfl⟩ rfl ?_
  refine wr_gi0 (k0 := 18) (x := h 18 16) (nx := 11) (r1 := 4) (r2 := 16) (r3 := 0) rfl rfl (by decide) rfl ⟨rfl, rfl⟩ rfl rfl ?_
  refine wi_icmp (cd := .ne) (nx := 14) (r1 := 15) (r2 := 0) (r3 := 0) rfl (by omega) (by omega) (fun (q7 : (h 63 5) ≠ (h 18 16)) => ?_) (fun (q7 : ¬ ((h 63 5) ≠ (h 18 16))) => ?_)
  ·
    refine wi_aload_n (i := 0) (x := 63) (nx := 16) (r1 := 0) (r2 := 0) (r3 := 0) rfl rfl ?_
    refine wi_aload_n (i := 0) (x := 63) (nx := 17) (r1 := 0) (r2 := 0) (r3 := 0) rfl rfl ?_
    refine wr_gr (k0 := 63) (x := 18) (nx := 20) (r1 := 7) (r2 := 1) (r3 := 0) rfl rfl (by decide) rfl ⟨rfl, rfl⟩ rfl ?_
    refine wr_gi0 (k0 := 18) (x := h 18 16) (nx := 23) (r1 := 4) (r2 := 16) (r3 := 0) rfl rfl (by decide) rfl ⟨rfl, rfl⟩ rfl rfl ?_
    refine wr_pf0 (k0 := 63) (x := h 18 16) (bl := -2147483648) (bh := 2147483647) (nx := 26) (r1 := 7) (r2 := 5) (r3 := 0) rfl (by decide) rfl ⟨rfl, rfl⟩ rfl rfl g rfl (by omega) (fun h8 g8 w8 u8 => ?_)
    have F9 := F0.then rfl u8
    refine wi_aload_n (i := 0) (x := 63) (nx := 27) (r1 := 0) (r2 := 0) (r3 := 0) rfl rfl ?_
    refine wi_aload_n (i := 0) (x := 63) (nx := 28) (r1 := 0) (r2 := 0) (r3 := 0) rfl rfl ?_
    refine wr_gr (k0 := 63) (x := 18) (nx := 31) (r1 := 7) (r2 := 1) (r3 := 0) rfl rfl (by decide) rfl ⟨rfl, rfl⟩ rfl ?_
    refine wr_V (k0 := 18) (rest := [.ref 63]) (as := [.ref 18]) (nx := 34) (r1 := 73) (r2 := 0) (r3 := 4) rfl rfl rfl (of_decide_eq_true rfl) rfl rfl (by decide) rfl rfl (of_decide_eq_true rfl) (of_decide_eq_true rfl) ?_
    refine wi_aload_n (i := 0) (x := 18) (nx := 1) (r1 := 0) (r2 := 0) (r3 := 0) rfl rfl ?_
    refine wr_gr (k0 := 18) (x := 3) (nx := 4) (r1 := 4) (r2 := 0) (r3 := 0) rfl rfl (by decide) rfl ⟨rfl, rfl⟩ rfl ?_
    refine wr_gi0 (k0 := 3) (x := h 3 2) (nx := 7) (r1 := 2) (r2 := 2) (r3 := 0) rfl rfl (by decide) rfl ⟨rfl, rfl⟩ rfl (u8 3 2 rfl) ?_
    refine wi_aload_n (i := 0) (x := 18) (nx := 8) (r1 := 0) (r2 := 0) (r3 := 0) rfl rfl ?_
    refine wr_gi0 (k0 := 18) (x := h 18 7) (nx := 11) (r1 := 4) (r2 := 7) (r3 := 0) rfl rfl (by decide) rfl ⟨rfl, rfl⟩ rfl (u8 18 7 rfl) ?_
    refine wr_sub (nx := 12) (r1 := 0) (r2 := 0) (r3 := 0) rfl (fun e10 (fe10 : e10 = (h 3 2) - (h 18 7)) => ?_)
    refine wi_ireturn (nx := 13) (r1 := 0) (r2 := 0) (r3 := 0) rfl rfl ?_
    refine wk_i ?_
    refine wi_bipush (n := 12) (nx := 36) (r1 := 0) (r2 := 0) (r3 := 0) rfl (by decide) ?_
    refine wi_S (rest := [.ref 63]) (as := [vi e10, vi 12]) (nx := 39) (r1 := 133) (r2 := 18) (r3 := 0) rfl rfl rfl (of_decide_eq_true rfl) rfl rfl (of_decide_eq_true rfl) (of_decide_eq_true rfl) ?_
    refine wi_iload_n (i := 0) (e := e10) (nx := 1) (r1 := 0) (r2 := 0) (r3 := 0) rfl rfl ?_
    refine wi_iload_n (i := 1) (e := 12) (nx := 2) (r1 := 0) (r2 := 0) (r3 := 0) rfl rfl ?_
    refine wi_icmp (cd := .gt) (nx := 5) (r1 := 9) (r2 := 0) (r3 := 0) rfl (by omega) (by omega) (fun (q11 : 12 < e10) => by exfalso; omega) (fun (q11 : ¬ (12 < e10)) => ?_)
    refine wi_iload_n (i := 0) (e := e10) (nx := 6) (r1 := 0) (r2 := 0) (r3 := 0) rfl rfl ?_
    refine wi_goto (nx := 9) (r1 := 10) (r2 := 0) (r3 := 0) rfl ?_
    refine wi_ireturn (nx := 11) (r1 := 0) (r2 := 0) (r3 := 0) rfl rfl ?_
    refine wk_i ?_
    refine wr_pf0 (k0 := 63) (x := e10) (bl := -12) (bh := 12) (nx := 42) (r1 := 7) (r2 := 4) (r3 := 0) rfl (by decide) rfl ⟨rfl, rfl⟩ rfl rfl g8 rfl (by omega) (fun h12 g12 w12 u12 => ?_)
    have F13 := F9.then rfl u12
    refine wi_aload_n (i := 0) (x := 63) (nx := 43) (r1 := 0) (r2 := 0) (r3 := 0) rfl rfl ?_
    refine wr_V (k0 := 63) (rest := []) (as := [.ref 63]) (nx := 46) (r1 := 112) (r2 := 0) (r3 := 7) rfl rfl rfl (of_decide_eq_true rfl) rfl rfl (by decide) rfl rfl (of_decide_eq_true rfl) (of_decide_eq_true rfl) ?_
    have e15 : h12 63 4 = e10 := w12
    refine ct_112_63 hcr  g12   (show (h12 63 4) ≤ 12 by omega) (fun h14 g14 u14 y14_0 => ?_)
    have F16 := F13.then (by decide +kernel) u14
    refine wk_n ?_
    refine wi_aload_n (i := 0) (x := 63) (nx := 47) (r1 := 0) (r2 := 0) (r3 := 0) rfl rfl ?_
    refine wr_gr (k0 := 63) (x := 65) (nx := 50) (r1 := 7) (r2 := 3) (r3 := 0) rfl rfl (by decide) rfl ⟨rfl, rfl⟩ rfl ?_
    refine wi_iconst (n := 0) (nx := 51) (r1 := 0) (r2 := 0) (r3 := 0) rfl ?_
    refine wi_S (rest := []) (as := [.ref 65, vi 0]) (nx := 54) (r1 := 135) (r2 := 18) (r3 := 0) rfl rfl rfl (of_decide_eq_true rfl) rfl rfl (of_decide_eq_true rfl) (of_decide_eq_true rfl) ?_
    refine ct_135_65 hcr  g14 0 (by omega)  (fun h17 g17 u17 y17_0 => ?_)
    have F18 := F16.then (by decide +kernel) u17
    refine wk_n ?_
    have q20 : h17 19 = h12 19 := funext (fun i => ((u17 19 i (fo_no_ok (by decide) i)).trans (u14 19 i (fo_no_ok (by decide) i))))
    have q21 : h17 8 = h12 8 := funext (fun i => ((u17 8 i (fo_no_ok (by decide) i)).trans (u14 8 i (fo_no_ok (by decide) i))))
    have ce22c : xC h17 = xC h12 := xC_eq q20 (((u17 18 7 rfl).trans ((u14 18 7 rfl).trans ((u12 18 7 rfl).trans (u8 18 7 rfl)))).trans (((u12 18 7 rfl).trans (u8 18 7 rfl))).symm)
    have ce22b : xB h17 = xB h12 := xB_eq q21 (((u17 18 7 rfl).trans ((u14 18 7 rfl).trans ((u12 18 7 rfl).trans (u8 18 7 rfl)))).trans (((u12 18 7 rfl).trans (u8 18 7 rfl))).symm)
    have ce22k : xK h17 = xK h12 := xK_eq (((u17 63 4 rfl).trans ((u14 63 4 rfl).trans w12)).trans (w12).symm)
    have q23 : h17 64 = h14 64 := funext (fun i => (u17 64 i (fo_no_ok (by decide) i)))
    have fm19 : XMp (xC h17) (xB h17) (xK h17) (h17 3 9) (h17 64) := XMp.none (by rw [ce22k, q23]; exact y14_0)
    have e24 : h17 63 4 = e10 := ((u17 63 4 rfl).trans ((u14 63 4 rfl).trans w12))
    have e25 : h17 18 7 = h 18 7 := ((u17 18 7 rfl).trans ((u14 18 7 rfl).trans ((u12 18 7 rfl).trans (u8 18 7 rfl))))
    have e26 : h17 3 2 = h 3 2 := ((u17 3 2 rfl).trans ((u14 3 2 rfl).trans ((u12 3 2 rfl).trans (u8 3 2 rfl))))
    have q28 : h17 19 = h 19 := funext (fun i => ((u17 19 i (fo_no_ok (by decide) i)).trans ((u14 19 i (fo_no_ok (by decide) i)).trans ((u12 19 i rfl).trans (u8 19 i rfl)))))
    have ce29c : xC h17 = xC h := xC_eq q28 ((u17 18 7 rfl).trans ((u14 18 7 rfl).trans ((u12 18 7 rfl).trans (u8 18 7 rfl))))
    have cb27 : (∀ j, j < xK h17 → 0 ≤ xC h17 j ∧ xC h17 j ≤ 4) := fun j hj => by rw [ce29c]; exact xq0.col j (by unfold xK at hj; omega) (by omega)
    refine wi_iconst (n := 0) (nx := 55) (r1 := 0) (r2 := 0) (r3 := 0) rfl ?_
    refine wi_istore_n (i := 1) (e := 0) (lo2 := [(1, vi 0), (0, .ref 63)]) (nx := 56) (r1 := 0) (r2 := 0) (r3 := 0) rfl rfl ?_
    refine wp.lo (lo := [(0, .ref 63), (1, vi 0)]) ⟨rfl, rfl, trivial⟩ rfl ?_
    refine wl_1 (fun x30 h31 => GI h31 ∧ FR [(64, 64, none), (65, 65, none), (67, 67, none), (63, 63, some (4, 5)), (63, 63, some (7, 7)), (66, 66, some (1, 1))] h h31 ∧ FR [(65, 65, none)] h17 h31 ∧ ((0 ≤ x30 ∧ x30 ≤ 12) ∧ (x30 = 0 ∨ x30 ≤ (h31 63 4))) ∧ (XJd (xC h17) (xB h17) (xK h17) (x30).toNat 0 (h31 65))) (fun x30 h31 => ((12 : Int) + 1 - x30).toNat) (fun x30 h31 => (56, [(0, .ref 63), (1, vi x30)], [], hp_w h31 cr, b, c)) ?_ 0 h17 ⟨g17, F18, FR.refl, (show (0 ≤ 0 ∧ 0 ≤ 12) ∧ (0 = 0 ∨ 0 ≤ (h17 63 4)) by omega), (XJd.zero y17_0)⟩
    intro x30 h31 ⟨g31, F32, u31, f31, X31_0⟩ I31
    have e33 : h31 63 4 = e10 := ((u31 63 4 rfl).trans ((u17 63 4 rfl).trans ((u14 63 4 rfl).trans w12)))
    refine wi_iload_n (i := 1) (e := x30) (nx := 57) (r1 := 0) (r2 := 0) (r3 := 0) rfl rfl ?_
    refine wi_aload_n (i := 0) (x := 63) (nx := 58) (r1 := 0) (r2 := 0) (r3 := 0) rfl rfl ?_
    refine wr_gi0 (k0 := 63) (x := e10) (nx := 61) (r1 := 7) (r2 := 4) (r3 := 0) rfl rfl (by decide) rfl ⟨rfl, rfl⟩ rfl ((u31 63 4 rfl).trans ((u17 63 4 rfl).trans ((u14 63 4 rfl).trans w12))) ?_
    refine wi_icmp (cd := .ge) (nx := 64) (r1 := 92) (r2 := 0) (r3 := 0) rfl (by omega) (by omega) (fun (q34 : e10 ≤ x30) => ?_) (fun (q34 : ¬ (e10 ≤ x30)) => ?_)
    ·
      have q36 : h31 19 = h17 19 := funext (fun i => (u31 19 i (fo_no_ok (by decide) i)))
      have q37 : h31 8 = h17 8 := funext (fun i => (u31 8 i (fo_no_ok (by decide) i)))
      have ce38c : xC h31 = xC h17 := xC_eq q36 (((u31 18 7 rfl).trans ((u17 18 7 rfl).trans ((u14 18 7 rfl).trans ((u12 18 7 rfl).trans (u8 18 7 rfl))))).trans (((u17 18 7 rfl).trans ((u14 18 7 rfl).trans ((u12 18 7 rfl).trans (u8 18 7 rfl))))).symm)
      have ce38b : xB h31 = xB h17 := xB_eq q37 (((u31 18 7 rfl).trans ((u17 18 7 rfl).trans ((u14 18 7 rfl).trans ((u12 18 7 rfl).trans (u8 18 7 rfl))))).trans (((u17 18 7 rfl).trans ((u14 18 7 rfl).trans ((u12 18 7 rfl).trans (u8 18 7 rfl))))).symm)
      have ce38k : xK h31 = xK h17 := xK_eq (((u31 63 4 rfl).trans ((u17 63 4 rfl).trans ((u14 63 4 rfl).trans w12))).trans (((u17 63 4 rfl).trans ((u14 63 4 rfl).trans w12))).symm)
      have q39 : h31 64 = h17 64 := funext (fun i => (u31 64 i (fo_no_ok (by decide) i)))
      have e40 : h31 3 9 = h 3 9 := ((u31 3 9 rfl).trans ((u17 3 9 rfl).trans ((u14 3 9 rfl).trans ((u12 3 9 rfl).trans (u8 3 9 rfl)))))
      have e41 : h17 3 9 = h 3 9 := ((u17 3 9 rfl).trans ((u14 3 9 rfl).trans ((u12 3 9 rfl).trans (u8 3 9 rfl))))
      have xj35 : XJp (xC h31) (xB h31) (xK h31) (h31 65) := (by rw [ce38c, ce38b, ce38k]; exact (XJd.done X31_0 (by unfold xK; omega)))
      have xj35m : XMp (xC h31) (xB h31) (xK h31) (h31 3 9) (h31 64) := by rw [ce38c, ce38b, ce38k, q39, show h31 3 9 = h17 3 9 by omega]; exact fm19
      refine wi_aload_n (i := 0) (x := 63) (nx := 93) (r1 := 0) (r2 := 0) (r3 := 0) rfl rfl ?_
      refine wi_aload_n (i := 0) (x := 63) (nx := 94) (r1 := 0) (r2 := 0) (r3 := 0) rfl rfl ?_
      refine wi_iconst (n := 0) (nx := 95) (r1 := 0) (r2 := 0) (r3 := 0) rfl ?_
      refine wi_iconst (n := 0) (nx := 96) (r1 := 0) (r2 := 0) (r3 := 0) rfl ?_
      refine wr_V (k0 := 63) (rest := [.ref 63]) (as := [.ref 63, vi 0, vi 0]) (nx := 99) (r1 := 114) (r2 := 2) (r3 := 7) rfl rfl rfl (of_decide_eq_true rfl) rfl rfl (by decide) rfl rfl (of_decide_eq_true rfl) (of_decide_eq_true rfl) ?_
      have q45 : h31 65 = h31 65 := funext (fun i => rfl)
      have q46 : h31 64 = h31 64 := funext (fun i => rfl)
      have xg44 : XG h31 := XG.at rfl rfl rfl rfl rfl q45 xj35 (by rw [q46]; exact xj35m)
      refine ct_114_63 hcr  g31 0 0 (by omega) (by omega) (show (h31 63 4) ≤ 12 by omega) (show 0 = 0 ∨ 0 ≤ (h31 63 4) by omega) xg44 ⟨rfl, Nat.two_pow_pos _⟩ (fun h42 z43 g42 u42 (fz43 : -2147483648 ≤ z43 ∧ z43 ≤ 2147483647) y42_0 y42_1 => ?_)
      have F47 := F32.then (by decide +kernel) u42
      have q49 : h42 19 = h31 19 := funext (fun i => (u42 19 i (fo_no_ok (by decide) i)))
      have q50 : h42 8 = h31 8 := funext (fun i => (u42 8 i (fo_no_ok (by decide) i)))
      have wv48 : z43 = ((xp (xW h31 ((0 : Int)).toNat) 5 : Nat) : Int) := by rw [← xW_eq rfl rfl rfl rfl rfl]; exact y42_0
      have wv48m := XG.to q49 q50 (((u42 18 7 rfl).trans ((u31 18 7 rfl).trans ((u17 18 7 rfl).trans ((u14 18 7 rfl).trans ((u12 18 7 rfl).trans (u8 18 7 rfl)))))).trans (((u31 18 7 rfl).trans ((u17 18 7 rfl).trans ((u14 18 7 rfl).trans ((u12 18 7 rfl).trans (u8 18 7 rfl)))))).symm) (((u42 63 4 rfl).trans ((u31 63 4 rfl).trans ((u17 63 4 rfl).trans ((u14 63 4 rfl).trans w12)))).trans (((u31 63 4 rfl).trans ((u17 63 4 rfl).trans ((u14 63 4 rfl).trans w12)))).symm) (((u42 3 9 rfl).trans ((u31 3 9 rfl).trans ((u17 3 9 rfl).trans ((u14 3 9 rfl).trans ((u12 3 9 rfl).trans (u8 3 9 rfl)))))).trans (((u31 3 9 rfl).trans ((u17 3 9 rfl).trans ((u14 3 9 rfl).trans ((u12 3 9 rfl).trans (u8 3 9 rfl)))))).symm) y42_1
      have wv48l := xp_lt (f := xW h31 ((0 : Int)).toNat) (fun c => xW_le _ _ c) 5
      have wv48b : 0 ≤ z43 ∧ z43 ≤ 1048575 := by rw [wv48]; have h16 : 16 ^ 5 = 1048576 := (by decide); omega
      refine wk_i ?_
      refine wi_S (rest := [.ref 63]) (as := [vi z43]) (nx := 102) (r1 := 117) (r2 := 17) (r3 := 0) rfl rfl rfl (of_decide_eq_true rfl) rfl rfl (of_decide_eq_true rfl) (of_decide_eq_true rfl) ?_
      refine ct_117 hcr  g42 z43 (by omega)  (fun z52  (fz52 : 0 ≤ z52 ∧ z52 ≤ 15) (p51_0 : 0 ≤ z52 ∧ z52 ≤ 15) y51_0 => ?_)
      refine wk_i ?_
      refine wr_pf0 (k0 := 63) (x := z52) (bl := -2147483648) (bh := 2147483647) (nx := 105) (r1 := 7) (r2 := 7) (r3 := 0) rfl (by decide) rfl ⟨rfl, rfl⟩ rfl rfl g42 rfl (by omega) (fun h53 g53 w53 u53 => ?_)
      have F54 := F47.then rfl u53
      refine wi_aload_n (i := 0) (x := 63) (nx := 106) (r1 := 0) (r2 := 0) (r3 := 0) rfl rfl ?_
      refine wr_gr (k0 := 63) (x := 66) (nx := 109) (r1 := 7) (r2 := 6) (r3 := 0) rfl rfl (by decide) rfl ⟨rfl, rfl⟩ rfl ?_
      refine wi_iconst (n := 0) (nx := 110) (r1 := 0) (r2 := 0) (r3 := 0) rfl ?_
      refine wr_pf0 (k0 := 66) (x := 0) (bl := 0) (bh := 12) (nx := 113) (r1 := 5) (r2 := 1) (r3 := 0) rfl (by decide) rfl ⟨rfl, rfl⟩ rfl rfl g53 rfl (by omega) (fun h55 g55 w55 u55 => ?_)
      have F56 := F54.then rfl u55
      refine wi_aload_n (i := 0) (x := 63) (nx := 114) (r1 := 0) (r2 := 0) (r3 := 0) rfl rfl ?_
      refine wr_V (k0 := 63) (rest := []) (as := [.ref 63]) (nx := 117) (r1 := 118) (r2 := 0) (r3 := 7) rfl rfl rfl (of_decide_eq_true rfl) rfl rfl (by decide) rfl rfl (of_decide_eq_true rfl) (of_decide_eq_true rfl) ?_
      have e58 : h55 63 4 = e10 := ((u55 63 4 rfl).trans ((u53 63 4 rfl).trans ((u42 63 4 rfl).trans ((u31 63 4 rfl).trans ((u17 63 4 rfl).trans ((u14 63 4 rfl).trans w12))))))
      have e59 : h55 66 1 = 0 := w55
      have e60 : h55 3 9 = h 3 9 := ((u55 3 9 rfl).trans ((u53 3 9 rfl).trans ((u42 3 9 rfl).trans ((u31 3 9 rfl).trans ((u17 3 9 rfl).trans ((u14 3 9 rfl).trans ((u12 3 9 rfl).trans (u8 3 9 rfl))))))))
      have q62 : h55 19 = h31 19 := funext (fun i => ((u55 19 i rfl).trans ((u53 19 i rfl).trans (u42 19 i (fo_no_ok (by decide) i)))))
      have q63 : h55 8 = h31 8 := funext (fun i => ((u55 8 i rfl).trans ((u53 8 i rfl).trans (u42 8 i (fo_no_ok (by decide) i)))))
      have q64 : h55 65 = h31 65 := funext (fun i => ((u55 65 i rfl).trans ((u53 65 i rfl).trans (u42 65 i (fo_no_ok (by decide) i)))))
      have q65 : h55 64 = h42 64 := funext (fun i => ((u55 64 i rfl).trans (u53 64 i rfl)))
      have xg61 : XG h55 := XG.at q62 q63 (((u55 18 7 rfl).trans ((u53 18 7 rfl).trans ((u42 18 7 rfl).trans ((u31 18 7 rfl).trans ((u17 18 7 rfl).trans ((u14 18 7 rfl).trans ((u12 18 7 rfl).trans (u8 18 7 rfl)))))))).trans (((u31 18 7 rfl).trans ((u17 18 7 rfl).trans ((u14 18 7 rfl).trans ((u12 18 7 rfl).trans (u8 18 7 rfl)))))).symm) (((u55 63 4 rfl).trans ((u53 63 4 rfl).trans ((u42 63 4 rfl).trans ((u31 63 4 rfl).trans ((u17 63 4 rfl).trans ((u14 63 4 rfl).trans w12)))))).trans (((u31 63 4 rfl).trans ((u17 63 4 rfl).trans ((u14 63 4 rfl).trans w12)))).symm) (((u55 3 9 rfl).trans ((u53 3 9 rfl).trans ((u42 3 9 rfl).trans ((u31 3 9 rfl).trans ((u17 3 9 rfl).trans ((u14 3 9 rfl).trans ((u12 3 9 rfl).trans (u8 3 9 rfl)))))))).trans (((u31 3 9 rfl).trans ((u17 3 9 rfl).trans ((u14 3 9 rfl).trans ((u12 3 9 rfl).trans (u8 3 9 rfl)))))).symm) q64 xj35 (by rw [q65]; exact wv48m)
      have q67 : h55 19 = h17 19 := funext (fun i => ((u55 19 i rfl).trans ((u53 19 i rfl).trans ((u42 19 i (fo_no_ok (by decide) i)).trans (u31 19 i (fo_no_ok (by decide) i))))))
      have q68 : h55 8 = h17 8 := funext (fun i => ((u55 8 i rfl).trans ((u53 8 i rfl).trans ((u42 8 i (fo_no_ok (by decide) i)).trans (u31 8 i (fo_no_ok (by decide) i))))))
      have ce69c : xC h55 = xC h17 := xC_eq q67 (((u55 18 7 rfl).trans ((u53 18 7 rfl).trans ((u42 18 7 rfl).trans ((u31 18 7 rfl).trans ((u17 18 7 rfl).trans ((u14 18 7 rfl).trans ((u12 18 7 rfl).trans (u8 18 7 rfl)))))))).trans (((u17 18 7 rfl).trans ((u14 18 7 rfl).trans ((u12 18 7 rfl).trans (u8 18 7 rfl))))).symm)
      have ce69b : xB h55 = xB h17 := xB_eq q68 (((u55 18 7 rfl).trans ((u53 18 7 rfl).trans ((u42 18 7 rfl).trans ((u31 18 7 rfl).trans ((u17 18 7 rfl).trans ((u14 18 7 rfl).trans ((u12 18 7 rfl).trans (u8 18 7 rfl)))))))).trans (((u17 18 7 rfl).trans ((u14 18 7 rfl).trans ((u12 18 7 rfl).trans (u8 18 7 rfl))))).symm)
      have ce69k : xK h55 = xK h17 := xK_eq (((u55 63 4 rfl).trans ((u53 63 4 rfl).trans ((u42 63 4 rfl).trans ((u31 63 4 rfl).trans ((u17 63 4 rfl).trans ((u14 63 4 rfl).trans w12)))))).trans (((u17 63 4 rfl).trans ((u14 63 4 rfl).trans w12))).symm)
      have cb66 : (∀ j, j < xK h55 → 0 ≤ xC h55 j ∧ xC h55 j ≤ 4) := (by rw [ce69k, ce69c]; exact cb27)
      have q71 : h55 19 = h31 19 := funext (fun i => ((u55 19 i rfl).trans ((u53 19 i rfl).trans (u42 19 i (fo_no_ok (by decide) i)))))
      have q72 : h55 8 = h31 8 := funext (fun i => ((u55 8 i rfl).trans ((u53 8 i rfl).trans (u42 8 i (fo_no_ok (by decide) i)))))
      have e73 : h55 63 7 = z52 := ((u55 63 7 rfl).trans w53)
      have fa70 : h55 63 7 = ((xm (xW h55 0) : Nat) : Int) := by rw [xW_eq q71 q72 (((u55 18 7 rfl).trans ((u53 18 7 rfl).trans ((u42 18 7 rfl).trans ((u31 18 7 rfl).trans ((u17 18 7 rfl).trans ((u14 18 7 rfl).trans ((u12 18 7 rfl).trans (u8 18 7 rfl)))))))).trans (((u31 18 7 rfl).trans ((u17 18 7 rfl).trans ((u14 18 7 rfl).trans ((u12 18 7 rfl).trans (u8 18 7 rfl)))))).symm) (((u55 63 4 rfl).trans ((u53 63 4 rfl).trans ((u42 63 4 rfl).trans ((u31 63 4 rfl).trans ((u17 63 4 rfl).trans ((u14 63 4 rfl).trans w12)))))).trans (((u31 63 4 rfl).trans ((u17 63 4 rfl).trans ((u14 63 4 rfl).trans w12)))).symm) (((u55 3 9 rfl).trans ((u53 3 9 rfl).trans ((u42 3 9 rfl).trans ((u31 3 9 rfl).trans ((u17 3 9 rfl).trans ((u14 3 9 rfl).trans ((u12 3 9 rfl).trans (u8 3 9 rfl)))))))).trans (((u31 3 9 rfl).trans ((u17 3 9 rfl).trans ((u14 3 9 rfl).trans ((u12 3 9 rfl).trans (u8 3 9 rfl)))))).symm), show h55 63 7 = z52 by omega, y51_0, wv48]; rw [show ((((xp (xW h31 (((0 : Int)).toNat)) 5 : Nat) : Int)).toNat) = xp (xW h31 (((0 : Int)).toNat)) 5 from rfl, xm_congr (fun c hc => xp_at (f := xW h31 (((0 : Int)).toNat)) (fun c => xW_le _ _ c) c 5 hc)]; rfl
      refine ct_118_63 hcr  g55   (show (h55 63 4) ≤ 12 by omega) (show (h55 66 1) = 0 by omega) (show 0 ≤ (h55 3 9) by omega) xg61 cb66 fa70 (fun h57 g57 u57 (p57_0 : (0 ≤ (h55 63 4) ∧ (h57 66 1) = (h55 63 4)) ∨ ((h55 63 4) < 0 ∧ (h57 66 1) = 0)) y57_0 => ?_)
      have F74 := F56.then (by decide +kernel) u57
      have b75 := gi_b (lo := 0) (hi := 12) g57 66 1 rfl
      refine wk_n ?_
      refine wi_return (nx := 118) (r1 := 0) (r2 := 0) (r3 := 0) rfl rfl ?_
      have e76 : h57 63 5 = h 18 16 := ((u57 63 5 rfl).trans ((u55 63 5 rfl).trans ((u53 63 5 rfl).trans ((u42 63 5 rfl).trans ((u31 63 5 rfl).trans ((u17 63 5 rfl).trans ((u14 63 5 rfl).trans ((u12 63 5 rfl).trans w8))))))))
      have e77 : h57 18 16 = h 18 16 := ((u57 18 16 rfl).trans ((u55 18 16 rfl).trans ((u53 18 16 rfl).trans ((u42 18 16 rfl).trans ((u31 18 16 rfl).trans ((u17 18 16 rfl).trans ((u14 18 16 rfl).trans ((u12 18 16 rfl).trans (u8 18 16 rfl)))))))))
      have e78 : h57 18 7 = h 18 7 := ((u57 18 7 rfl).trans ((u55 18 7 rfl).trans ((u53 18 7 rfl).trans ((u42 18 7 rfl).trans ((u31 18 7 rfl).trans ((u17 18 7 rfl).trans ((u14 18 7 rfl).trans ((u12 18 7 rfl).trans (u8 18 7 rfl)))))))))
      have e79 : h57 3 2 = h 3 2 := ((u57 3 2 rfl).trans ((u55 3 2 rfl).trans ((u53 3 2 rfl).trans ((u42 3 2 rfl).trans ((u31 3 2 rfl).trans ((u17 3 2 rfl).trans ((u14 3 2 rfl).trans ((u12 3 2 rfl).trans (u8 3 2 rfl)))))))))
      have q80 : h57 19 = h55 19 := funext (fun i => (u57 19 i (fo_no_ok (by decide) i)))
      have q81 : h57 8 = h55 8 := funext (fun i => (u57 8 i (fo_no_ok (by decide) i)))
      have ce82c : xC h57 = xC h55 := xC_eq q80 (((u57 18 7 rfl).trans ((u55 18 7 rfl).trans ((u53 18 7 rfl).trans ((u42 18 7 rfl).trans ((u31 18 7 rfl).trans ((u17 18 7 rfl).trans ((u14 18 7 rfl).trans ((u12 18 7 rfl).trans (u8 18 7 rfl))))))))).trans (((u55 18 7 rfl).trans ((u53 18 7 rfl).trans ((u42 18 7 rfl).trans ((u31 18 7 rfl).trans ((u17 18 7 rfl).trans ((u14 18 7 rfl).trans ((u12 18 7 rfl).trans (u8 18 7 rfl))))))))).symm)
      have ce82b : xB h57 = xB h55 := xB_eq q81 (((u57 18 7 rfl).trans ((u55 18 7 rfl).trans ((u53 18 7 rfl).trans ((u42 18 7 rfl).trans ((u31 18 7 rfl).trans ((u17 18 7 rfl).trans ((u14 18 7 rfl).trans ((u12 18 7 rfl).trans (u8 18 7 rfl))))))))).trans (((u55 18 7 rfl).trans ((u53 18 7 rfl).trans ((u42 18 7 rfl).trans ((u31 18 7 rfl).trans ((u17 18 7 rfl).trans ((u14 18 7 rfl).trans ((u12 18 7 rfl).trans (u8 18 7 rfl))))))))).symm)
      have q83 : h57 67 = h57 67 := funext (fun i => rfl)
      have e84 : h57 63 4 = e10 := ((u57 63 4 rfl).trans ((u55 63 4 rfl).trans ((u53 63 4 rfl).trans ((u42 63 4 rfl).trans ((u31 63 4 rfl).trans ((u17 63 4 rfl).trans ((u14 63 4 rfl).trans w12)))))))
      have e85 : h55 18 7 = h 18 7 := ((u55 18 7 rfl).trans ((u53 18 7 rfl).trans ((u42 18 7 rfl).trans ((u31 18 7 rfl).trans ((u17 18 7 rfl).trans ((u14 18 7 rfl).trans ((u12 18 7 rfl).trans (u8 18 7 rfl))))))))
      have e86 : h55 3 2 = h 3 2 := ((u55 3 2 rfl).trans ((u53 3 2 rfl).trans ((u42 3 2 rfl).trans ((u31 3 2 rfl).trans ((u17 3 2 rfl).trans ((u14 3 2 rfl).trans ((u12 3 2 rfl).trans (u8 3 2 rfl))))))))
      exact k h57 g57 F74 (show (h57 63 5) = (h57 18 16) by omega) (show ((h57 18 7) ≤ (h57 3 2) ∧ (h57 66 1) = (h57 3 2) - (h57 18 7)) ∨ ((h57 3 2) < (h57 18 7) ∧ (h57 66 1) = 0) by omega) (by unfold XBe; rw [ce82c, ce82b, q83, show (h57 3 2 - h57 18 7).toNat = xK h55 by unfold xK; omega]; exact y57_0)
    ·
      refine wi_iconst (n := 0) (nx := 65) (r1 := 0) (r2 := 0) (r3 := 0) rfl ?_
      refine wi_istore_n (i := 2) (e := 0) (lo2 := [(2, vi 0), (0, .ref 63), (1, vi x30)]) (nx := 66) (r1 := 0) (r2 := 0) (r3 := 0) rfl rfl ?_
      refine wp.lo (lo := [(0, .ref 63), (1, vi x30), (2, vi 0)]) ⟨rfl, rfl, rfl, trivial⟩ rfl ?_
      refine wl_1 (fun x35 h36 => GI h36 ∧ FR [(64, 64, none), (65, 65, none), (67, 67, none), (63, 63, some (4, 5)), (63, 63, some (7, 7)), (66, 66, some (1, 1))] h h36 ∧ FR [(65, 65, none)] h17 h36 ∧ FR [(65, 65, none)] h31 h36 ∧ ((0 ≤ x35 ∧ x35 ≤ 12) ∧ (x35 = 0 ∨ x35 ≤ (h36 63 4))) ∧ (XJd (xC h17) (xB h17) (xK h17) (x30).toNat (x35).toNat (h36 65))) (fun x35 h36 => ((12 : Int) + 1 - x35).toNat) (fun x35 h36 => (66, [(0, .ref 63), (1, vi x30), (2, vi x35)], [], hp_w h36 cr, b, c)) ?_ 0 h31 ⟨g31, F32, u31, FR.refl, (show (0 ≤ 0 ∧ 0 ≤ 12) ∧ (0 = 0 ∨ 0 ≤ (h31 63 4)) by omega), X31_0⟩
      intro x35 h36 ⟨g36, F37, F38, u36, f36, X36_0⟩ I36
      have e39 : h36 63 4 = e10 := ((u36 63 4 rfl).trans ((u31 63 4 rfl).trans ((u17 63 4 rfl).trans ((u14 63 4 rfl).trans w12))))
      refine wi_iload_n (i := 2) (e := x35) (nx := 67) (r1 := 0) (r2 := 0) (r3 := 0) rfl rfl ?_
      refine wi_aload_n (i := 0) (x := 63) (nx := 68) (r1 := 0) (r2 := 0) (r3 := 0) rfl rfl ?_
      refine wr_gi0 (k0 := 63) (x := e10) (nx := 71) (r1 := 7) (r2 := 4) (r3 := 0) rfl rfl (by decide) rfl ⟨rfl, rfl⟩ rfl ((u36 63 4 rfl).trans ((u31 63 4 rfl).trans ((u17 63 4 rfl).trans ((u14 63 4 rfl).trans w12)))) ?_
      refine wi_icmp (cd := .ge) (nx := 74) (r1 := 86) (r2 := 0) (r3 := 0) rfl (by omega) (by omega) (fun (q40 : e10 ≤ x35) => ?_) (fun (q40 : ¬ (e10 ≤ x35)) => ?_)
      ·
        refine wr_iinc (i := 1) (n := 1) (v := x30) (fun e41 => [(1, vi e41), (0, .ref 63), (2, vi x35)]) (nx := 89) (r1 := 0) (r2 := 0) (r3 := 0) rfl rfl (fun _ => rfl) (fun e41 (fe41 : e41 = x30 + 1) => ?_)
        refine wi_goto (nx := 92) (r1 := 56) (r2 := 0) (r3 := 0) rfl ?_
        refine wp.lo (lo := [(0, .ref 63), (1, vi e41)]) ⟨rfl, rfl, trivial⟩ rfl ?_
        exact I31 e41 h36 ⟨g36, F37, F38, (show (0 ≤ e41 ∧ e41 ≤ 12) ∧ (e41 = 0 ∨ e41 ≤ (h36 63 4)) by omega), (by rw [show (e41).toNat = (x30).toNat + 1 by omega]; exact XJd.next X36_0 (by unfold xK; omega) (by omega))⟩ (show ((12 : Int) + 1 - e41).toNat < ((12 : Int) + 1 - x30).toNat by omega)
      ·
        refine wi_aload_n (i := 0) (x := 63) (nx := 75) (r1 := 0) (r2 := 0) (r3 := 0) rfl rfl ?_
        refine wi_iload_n (i := 1) (e := x30) (nx := 76) (r1 := 0) (r2 := 0) (r3 := 0) rfl rfl ?_
        refine wi_iload_n (i := 2) (e := x35) (nx := 77) (r1 := 0) (r2 := 0) (r3 := 0) rfl rfl ?_
        refine wr_V (k0 := 63) (rest := []) (as := [.ref 63, vi x30, vi x35]) (nx := 80) (r1 := 113) (r2 := 2) (r3 := 7) rfl rfl rfl (of_decide_eq_true rfl) rfl rfl (by decide) rfl rfl (of_decide_eq_true rfl) (of_decide_eq_true rfl) ?_
        have e42 : h36 18 7 = h 18 7 := ((u36 18 7 rfl).trans ((u31 18 7 rfl).trans ((u17 18 7 rfl).trans ((u14 18 7 rfl).trans ((u12 18 7 rfl).trans (u8 18 7 rfl))))))
        have q43 : h36 19 = h17 19 := funext (fun i => ((u36 19 i (fo_no_ok (by decide) i)).trans (u31 19 i (fo_no_ok (by decide) i))))
        have q44 : h36 8 = h17 8 := funext (fun i => ((u36 8 i (fo_no_ok (by decide) i)).trans (u31 8 i (fo_no_ok (by decide) i))))
        have ce45c : xC h36 = xC h17 := xC_eq q43 (((u36 18 7 rfl).trans ((u31 18 7 rfl).trans ((u17 18 7 rfl).trans ((u14 18 7 rfl).trans ((u12 18 7 rfl).trans (u8 18 7 rfl)))))).trans (((u17 18 7 rfl).trans ((u14 18 7 rfl).trans ((u12 18 7 rfl).trans (u8 18 7 rfl))))).symm)
        have ce45b : xB h36 = xB h17 := xB_eq q44 (((u36 18 7 rfl).trans ((u31 18 7 rfl).trans ((u17 18 7 rfl).trans ((u14 18 7 rfl).trans ((u12 18 7 rfl).trans (u8 18 7 rfl)))))).trans (((u17 18 7 rfl).trans ((u14 18 7 rfl).trans ((u12 18 7 rfl).trans (u8 18 7 rfl))))).symm)
        have ce45k : xK h36 = xK h17 := xK_eq (((u36 63 4 rfl).trans ((u31 63 4 rfl).trans ((u17 63 4 rfl).trans ((u14 63 4 rfl).trans w12)))).trans (((u17 63 4 rfl).trans ((u14 63 4 rfl).trans w12))).symm)
        have q47 : h36 19 = h17 19 := funext (fun i => ((u36 19 i (fo_no_ok (by decide) i)).trans (u31 19 i (fo_no_ok (by decide) i))))
        have q48 : h36 8 = h17 8 := funext (fun i => ((u36 8 i (fo_no_ok (by decide) i)).trans (u31 8 i (fo_no_ok (by decide) i))))
        have ce49c : xC h36 = xC h17 := xC_eq q47 (((u36 18 7 rfl).trans ((u31 18 7 rfl).trans ((u17 18 7 rfl).trans ((u14 18 7 rfl).trans ((u12 18 7 rfl).trans (u8 18 7 rfl)))))).trans (((u17 18 7 rfl).trans ((u14 18 7 rfl).trans ((u12 18 7 rfl).trans (u8 18 7 rfl))))).symm)
        have ce49b : xB h36 = xB h17 := xB_eq q48 (((u36 18 7 rfl).trans ((u31 18 7 rfl).trans ((u17 18 7 rfl).trans ((u14 18 7 rfl).trans ((u12 18 7 rfl).trans (u8 18 7 rfl)))))).trans (((u17 18 7 rfl).trans ((u14 18 7 rfl).trans ((u12 18 7 rfl).trans (u8 18 7 rfl))))).symm)
        have ce49k : xK h36 = xK h17 := xK_eq (((u36 63 4 rfl).trans ((u31 63 4 rfl).trans ((u17 63 4 rfl).trans ((u14 63 4 rfl).trans w12)))).trans (((u17 63 4 rfl).trans ((u14 63 4 rfl).trans w12))).symm)
        have cb46 : (∀ j, j < xK h36 → 0 ≤ xC h36 j ∧ xC h36 j ≤ 4) := (by rw [ce49k, ce49c]; exact cb27)
        refine ct_113_63 hcr  g36 x30 x35 (by omega) (by omega) (show (h36 63 4) ≤ 12 by omega) (show (h36 18 7) + (h36 63 4) ≤ 12 by omega) (show x30 < (h36 63 4) by omega) (show x35 < (h36 63 4) by omega) (by rw [ce45c, ce45b, ce45k]; exact X36_0) cb46 (fun h41 g41 u41 y41_0 => ?_)
        have F50 := F37.then (by decide +kernel) u41
        have F51 := F38.then (by decide +kernel) u41
        have F52 := u36.then (by decide +kernel) u41
        refine wk_n ?_
        refine wr_iinc (i := 2) (n := 1) (v := x35) (fun e53 => [(2, vi e53), (0, .ref 63), (1, vi x30)]) (nx := 83) (r1 := 0) (r2 := 0) (r3 := 0) rfl rfl (fun _ => rfl) (fun e53 (fe53 : e53 = x35 + 1) => ?_)
        refine wi_goto (nx := 86) (r1 := 66) (r2 := 0) (r3 := 0) rfl ?_
        have e54 : h41 63 4 = e10 := ((u41 63 4 rfl).trans ((u36 63 4 rfl).trans ((u31 63 4 rfl).trans ((u17 63 4 rfl).trans ((u14 63 4 rfl).trans w12)))))
        refine wp.lo (lo := [(0, .ref 63), (1, vi x30), (2, vi e53)]) ⟨rfl, rfl, rfl, trivial⟩ rfl ?_
        have q55 : h36 19 = h17 19 := funext (fun i => ((u36 19 i (fo_no_ok (by decide) i)).trans (u31 19 i (fo_no_ok (by decide) i))))
        have q56 : h36 8 = h17 8 := funext (fun i => ((u36 8 i (fo_no_ok (by decide) i)).trans (u31 8 i (fo_no_ok (by decide) i))))
        have ce57c : xC h36 = xC h17 := xC_eq q55 (((u36 18 7 rfl).trans ((u31 18 7 rfl).trans ((u17 18 7 rfl).trans ((u14 18 7 rfl).trans ((u12 18 7 rfl).trans (u8 18 7 rfl)))))).trans (((u17 18 7 rfl).trans ((u14 18 7 rfl).trans ((u12 18 7 rfl).trans (u8 18 7 rfl))))).symm)
        have ce57b : xB h36 = xB h17 := xB_eq q56 (((u36 18 7 rfl).trans ((u31 18 7 rfl).trans ((u17 18 7 rfl).trans ((u14 18 7 rfl).trans ((u12 18 7 rfl).trans (u8 18 7 rfl)))))).trans (((u17 18 7 rfl).trans ((u14 18 7 rfl).trans ((u12 18 7 rfl).trans (u8 18 7 rfl))))).symm)
        have ce57k : xK h36 = xK h17 := xK_eq (((u36 63 4 rfl).trans ((u31 63 4 rfl).trans ((u17 63 4 rfl).trans ((u14 63 4 rfl).trans w12)))).trans (((u17 63 4 rfl).trans ((u14 63 4 rfl).trans w12))).symm)
        exact I36 e53 h41 ⟨g41, F50, F51, F52, (show (0 ≤ e53 ∧ e53 ≤ 12) ∧ (e53 = 0 ∨ e53 ≤ (h41 63 4)) by omega), (by have x0 := y41_0; rw [ce57c, ce57b, ce57k] at x0; rw [show (e53).toNat = (x35).toNat + 1 by omega]; exact x0)⟩ (show ((12 : Int) + 1 - e53).toNat < ((12 : Int) + 1 - x35).toNat by omega)
  ·
    refine wi_return (nx := 15) (r1 := 0) (r2 := 0) (r3 := 0) rfl rfl ?_
    exact k h g F0 (show (h 63 5) = (h 18 16) by omega) (show ((h 18 7) ≤ (h 3 2) ∧ (h 66 1) = (h 3 2) - (h 18 7)) ∨ ((h 3 2) < (h 18 7) ∧ (h 66 1) = 0) by omega) (xq0.xbe (by omega))
-- method 120: Exchange.carryOut()I
set_option maxRecDepth 100000 in
set_option maxHeartbeats 100000000 in
theorem ct_120_63 {L : Nat} {xs : Nat → Int32} {d b c : Nat} {h : hp} {cr : Nat → Nat → Option Nat} {Q : hp_Q} (hcr : CR cr)  (g : GI h)   (pp0 : h 18 16 ≤ 2000000000) (pp1 : h 63 5 = h 18 16) (pp2 : (h 18 7 ≤ h 3 2 ∧ h 66 1 = h 3 2 - h 18 7) ∨ (h 3 2 < h 18 7 ∧ h 66 1 = 0)) (xq0 : MCL h) (xq1 : XBe h) (k : ∀ (h2 : hp) (z0 : Int) , GI h2 → FR [(19, 19, none), (18, 18, some (16, 16))] h h2 → (0 ≤ z0 ∧ z0 ≤ 12) → (h 18 16 ≤ h2 18 16 ∧ h2 18 16 ≤ h 18 16 + 12) → (MCL h2) → Q (.inl (some (vi z0))) (hp_w h2 cr) b c) : wp (md_xa (L, xs)) (d + 1) 120 (0, [(0, .ref 63)], [], hp_w h cr, b, c) Q := by
  have F0 : FR [(19, 19, none), (18, 18, some (16, 16))] h h := FR.refl
  have b1 := gi_b (lo := -2147483648) (hi := 2147483647) g 18 16 rfl
  have b2 := gi_b (lo := -2147483648) (hi := 2147483647) g 63 5 rfl
  have b3 := gi_b (lo := 0) (hi := 12) g 18 7 rfl
  have b4 := gi_b (lo := 0) (hi := 12) g 3 2 rfl
  have b5 := gi_b (lo := 0) (hi := 12) g 66 1 rfl
  refine wi_iconst (n := 0) (nx := 1) (r1 := 0) (r2 := 0) (r3 := 0) rfl ?_
  refine wi_istore_n (i := 1) (e := 0) (lo2 := [(1, vi 0), (0, .ref 63)]) (nx := 2) (r1 := 0) (r2 := 0) (r3 := 0) rfl rfl ?_
  refine wi_iconst (n := 0) (nx := 3) (r1 := 0) (r2 := 0) (r3 := 0) rfl ?_
  refine wi_istore_n (i := 2) (e := 0) (lo2 := [(2, vi 0), (1, vi 0), (0, .ref 63)]) (nx := 4) (r1 := 0) (r2 := 0) (r3 := 0) rfl rfl ?_
  refine wp.lo (lo := [(0, .ref 63), (1, vi 0), (2, vi 0)]) ⟨rfl, rfl, rfl, trivial⟩ rfl ?_
  refine wl_2 (fun x6 x7 h8 => GI h8 ∧ FR [(19, 19, none), (18, 18, some (16, 16))] h h8 ∧ FR [(19, 19, none), (18, 18, some (16, 16))] h h8 ∧ ((0 ≤ x6 ∧ x6 ≤ 12) ∧ (0 ≤ x7 ∧ x7 ≤ 12) ∧ (x7 ≤ (h8 66 1)) ∧ ((h8 66 1) = (h 66 1)) ∧ (x6 ≤ x7) ∧ ((h8 18 16) = (h 18 16) + x6) ∧ ((h8 18 7) = (h 18 7)) ∧ ((h8 3 2) = (h 3 2))) ∧ (∀ p : Nat, (p : Int) < x7 → h8 19 ((h 18 7).toNat + p) = h 67 p) ∧ (∀ i : Nat, ((i : Int) < h 18 7 ∨ h 18 7 + x7 ≤ (i : Int)) → h8 19 i = h 19 i) ∧ (x6 = 0 → ∀ i : Nat, h8 19 i = h 19 i)) (fun x6 x7 h8 => ((12 : Int) + 1 - x7).toNat) (fun x6 x7 h8 => (4, [(0, .ref 63), (1, vi x6), (2, vi x7)], [], hp_w h8 cr, b, c)) ?_ 0 0 h ⟨g, F0, FR.refl, (show (0 ≤ 0 ∧ 0 ≤ 12) ∧ (0 ≤ 0 ∧ 0 ≤ 12) ∧ (0 ≤ (h 66 1)) ∧ ((h 66 1) = (h 66 1)) ∧ (0 ≤ 0) ∧ ((h 18 16) = (h 18 16) + 0) ∧ ((h 18 7) = (h 18 7)) ∧ ((h 3 2) = (h 3 2)) by omega), (fun p e => absurd e (by omega)), (fun i e => rfl), (fun e i => rfl)⟩
  intro x6 x7 h8 ⟨g8, F9, u8, f8, X8_0, X8_1, X8_2⟩ I8
  have e10 : h8 66 1 = h 66 1 := (u8 66 1 rfl)
  have b11 := gi_b (lo := -2147483648) (hi := 2147483647) g8 18 16 rfl
  have e12 : h8 18 7 = h 18 7 := (u8 18 7 rfl)
  have e13 : h8 3 2 = h 3 2 := (u8 3 2 rfl)
  refine wi_iload_n (i := 2) (e := x7) (nx := 5) (r1 := 0) (r2 := 0) (r3 := 0) rfl rfl ?_
  refine wi_aload_n (i := 0) (x := 63) (nx := 6) (r1 := 0) (r2 := 0) (r3 := 0) rfl rfl ?_
  refine wr_gr (k0 := 63) (x := 66) (nx := 9) (r1 := 7) (r2 := 6) (r3 := 0) rfl rfl (by decide) rfl ⟨rfl, rfl⟩ rfl ?_
  refine wr_gi0 (k0 := 66) (x := h 66 1) (nx := 12) (r1 := 5) (r2 := 1) (r3 := 0) rfl rfl (by decide) rfl ⟨rfl, rfl⟩ rfl (u8 66 1 rfl) ?_
  refine wi_icmp (cd := .ge) (nx := 15) (r1 := 51) (r2 := 0) (r3 := 0) rfl (by omega) (by omega) (fun (q14 : (h 66 1) ≤ x7) => ?_) (fun (q14 : ¬ ((h 66 1) ≤ x7)) => ?_)
  ·
    refine wi_iload_n (i := 1) (e := x6) (nx := 52) (r1 := 0) (r2 := 0) (r3 := 0) rfl rfl ?_
    refine wi_ireturn (nx := 53) (r1 := 0) (r2 := 0) (r3 := 0) rfl rfl ?_
    have q15 : h8 19 = h8 19 := funext (fun i => rfl)
    have q16 : h8 8 = h 8 := funext (fun i => (u8 8 i (fo_no_ok (by decide) i)))
    have q17 : h8 7 = h 7 := funext (fun i => (u8 7 i (fo_no_ok (by decide) i)))
    have q18 : h8 67 = h 67 := funext (fun i => (u8 67 i (fo_no_ok (by decide) i)))
    have e19 : h8 63 5 = h 63 5 := (u8 63 5 rfl)
    exact k h8 x6 g8 F9 (by omega) (show (h 18 16) ≤ (h8 18 16) ∧ (h8 18 16) ≤ (h 18 16) + 12 by omega) (MCL.swap xq0 xq1 q16 q17 q18 (by omega) (by omega) (by omega) (by omega) (fun p e => by rw [q15]; exact X8_0 p (by omega)) (fun i e => by rw [q15]; exact X8_1 i (by omega)) (fun e i => by rw [q15]; exact X8_2 (by omega) i))
  ·
    refine wi_aload_n (i := 0) (x := 63) (nx := 16) (r1 := 0) (r2 := 0) (r3 := 0) rfl rfl ?_
    refine wr_gr (k0 := 63) (x := 18) (nx := 19) (r1 := 7) (r2 := 1) (r3 := 0) rfl rfl (by decide) rfl ⟨rfl, rfl⟩ rfl ?_
    refine wi_aload_n (i := 0) (x := 63) (nx := 20) (r1 := 0) (r2 := 0) (r3 := 0) rfl rfl ?_
    refine wr_gr (k0 := 63) (x := 18) (nx := 23) (r1 := 7) (r2 := 1) (r3 := 0) rfl rfl (by decide) rfl ⟨rfl, rfl⟩ rfl ?_
    refine wr_gi0 (k0 := 18) (x := h 18 7) (nx := 26) (r1 := 4) (r2 := 7) (r3 := 0) rfl rfl (by decide) rfl ⟨rfl, rfl⟩ rfl (u8 18 7 rfl) ?_
    refine wi_iload_n (i := 2) (e := x7) (nx := 27) (r1 := 0) (r2 := 0) (r3 := 0) rfl rfl ?_
    refine wr_add (nx := 28) (r1 := 0) (r2 := 0) (r3 := 0) rfl (fun e15 (fe15 : e15 = (h 18 7) + x7) => ?_)
    refine wi_aload_n (i := 0) (x := 63) (nx := 29) (r1 := 0) (r2 := 0) (r3 := 0) rfl rfl ?_
    refine wr_gr (k0 := 63) (x := 66) (nx := 32) (r1 := 7) (r2 := 6) (r3 := 0) rfl rfl (by decide) rfl ⟨rfl, rfl⟩ rfl ?_
    refine wi_iload_n (i := 2) (e := x7) (nx := 33) (r1 := 0) (r2 := 0) (r3 := 0) rfl rfl ?_
    refine wr_V (k0 := 66) (rest := [vi e15, .ref 18]) (as := [.ref 66, vi x7]) (nx := 36) (r1 := 95) (r2 := 1) (r3 := 5) rfl rfl rfl (of_decide_eq_true rfl) rfl rfl (by decide) rfl rfl (of_decide_eq_true rfl) (of_decide_eq_true rfl) ?_
    refine wi_iload_n (i := 1) (e := x7) (nx := 1) (r1 := 0) (r2 := 0) (r3 := 0) rfl rfl ?_
    refine wi_if (cd := .lt) (nx := 4) (r1 := 12) (r2 := 0) (r3 := 0) rfl (by omega) (fun (q16 : x7 < 0) => by exfalso; omega) (fun (q16 : ¬ (x7 < 0)) => ?_)
    refine wi_iload_n (i := 1) (e := x7) (nx := 5) (r1 := 0) (r2 := 0) (r3 := 0) rfl rfl ?_
    refine wi_aload_n (i := 0) (x := 66) (nx := 6) (r1 := 0) (r2 := 0) (r3 := 0) rfl rfl ?_
    refine wr_gi0 (k0 := 66) (x := h 66 1) (nx := 9) (r1 := 5) (r2 := 1) (r3 := 0) rfl rfl (by decide) rfl ⟨rfl, rfl⟩ rfl (u8 66 1 rfl) ?_
    refine wi_icmp (cd := .lt) (nx := 12) (r1 := 16) (r2 := 0) (r3 := 0) rfl (by omega) (by omega) (fun (q17 : x7 < (h 66 1)) => ?_) (fun (q17 : ¬ (x7 < (h 66 1))) => by exfalso; omega)
    refine wi_aload_n (i := 0) (x := 66) (nx := 17) (r1 := 0) (r2 := 0) (r3 := 0) rfl rfl ?_
    refine wr_gr (k0 := 66) (x := 67) (nx := 20) (r1 := 5) (r2 := 0) (r3 := 0) rfl rfl (by decide) rfl ⟨rfl, rfl⟩ rfl ?_
    refine wi_iload_n (i := 1) (e := x7) (nx := 21) (r1 := 0) (r2 := 0) (r3 := 0) rfl rfl ?_
    obtain ⟨i18, ei18⟩ : ∃ q : Nat, x7 = (q : Int) := ⟨(x7).toNat, by omega⟩
    have b19 := gi_b (lo := -2147483648) (hi := 2147483647) g 67 i18 rfl
    refine wr_ia (k0 := 67) (a := x7) (f := i18) (x := h 67 i18) (nx := 22) (r1 := 0) (r2 := 0) (r3 := 0) rfl (by decide) rfl (by omega) (by omega) (by decide) (u8 67 i18 (fn_a (by omega) (fn_a (by omega) fn_0))) ?_
    refine wi_ireturn (nx := 23) (r1 := 0) (r2 := 0) (r3 := 0) rfl rfl ?_
    refine wk_i ?_
    refine wr_V (k0 := 18) (rest := []) (as := [.ref 18, vi e15, vi (h 67 i18)]) (nx := 39) (r1 := 88) (r2 := 2) (r3 := 4) rfl rfl rfl (of_decide_eq_true rfl) rfl rfl (by decide) rfl rfl (of_decide_eq_true rfl) (of_decide_eq_true rfl) ?_
    refine wi_iload_n (i := 1) (e := e15) (nx := 1) (r1 := 0) (r2 := 0) (r3 := 0) rfl rfl ?_
    refine wi_if (cd := .lt) (nx := 4) (r1 := 20) (r2 := 0) (r3 := 0) rfl (by omega) (fun (q20 : e15 < 0) => by exfalso; omega) (fun (q20 : ¬ (e15 < 0)) => ?_)
    refine wi_iload_n (i := 1) (e := e15) (nx := 5) (r1 := 0) (r2 := 0) (r3 := 0) rfl rfl ?_
    refine wi_bipush (n := 12) (nx := 7) (r1 := 0) (r2 := 0) (r3 := 0) rfl (by decide) ?_
    refine wi_icmp (cd := .ge) (nx := 10) (r1 := 20) (r2 := 0) (r3 := 0) rfl (by omega) (by omega) (fun (q21 : 12 ≤ e15) => by exfalso; omega) (fun (q21 : ¬ (12 ≤ e15)) => ?_)
    refine wi_aload_n (i := 0) (x := 18) (nx := 11) (r1 := 0) (r2 := 0) (r3 := 0) rfl rfl ?_
    refine wr_gr (k0 := 18) (x := 19) (nx := 14) (r1 := 4) (r2 := 1) (r3 := 0) rfl rfl (by decide) rfl ⟨rfl, rfl⟩ rfl ?_
    refine wi_iload_n (i := 1) (e := e15) (nx := 15) (r1 := 0) (r2 := 0) (r3 := 0) rfl rfl ?_
    obtain ⟨i22, ei22⟩ : ∃ q : Nat, e15 = (q : Int) := ⟨(e15).toNat, by omega⟩
    have b23 := gi_b (lo := -2147483648) (hi := 2147483647) g8 19 i22 rfl
    refine wr_ia (k0 := 19) (a := e15) (f := i22) (x := h8 19 i22) (nx := 16) (r1 := 0) (r2 := 0) (r3 := 0) rfl (by decide) rfl (by omega) (by omega) (by decide) rfl ?_
    refine wi_iload_n (i := 2) (e := h 67 i18) (nx := 17) (r1 := 0) (r2 := 0) (r3 := 0) rfl rfl ?_
    refine wi_icmp (cd := .ne) (nx := 20) (r1 := 22) (r2 := 0) (r3 := 0) rfl (by omega) (by omega) (fun (q24 : (h8 19 i22) ≠ (h 67 i18)) => ?_) (fun (q24 : ¬ ((h8 19 i22) ≠ (h 67 i18))) => ?_)
    ·
      refine wi_aload_n (i := 0) (x := 18) (nx := 23) (r1 := 0) (r2 := 0) (r3 := 0) rfl rfl ?_
      refine wr_gr (k0 := 18) (x := 19) (nx := 26) (r1 := 4) (r2 := 1) (r3 := 0) rfl rfl (by decide) rfl ⟨rfl, rfl⟩ rfl ?_
      refine wi_iload_n (i := 1) (e := e15) (nx := 27) (r1 := 0) (r2 := 0) (r3 := 0) rfl rfl ?_
      refine wi_iload_n (i := 2) (e := h 67 i18) (nx := 28) (r1 := 0) (r2 := 0) (r3 := 0) rfl rfl ?_
      refine wr_is (k0 := 19) (a := e15) (f := i22) (x := h 67 i18) (bl := -2147483648) (bh := 2147483647) (nx := 29) (r1 := 0) (r2 := 0) (r3 := 0) rfl (by decide) rfl (by omega) (by omega) (by decide) g8 rfl (by omega) (fun h25 g25 w25 u25 => ?_)
      have F26 := F9.then rfl (FR.rngp (lo := 19) (hi := 19) u25 (by decide))
      have F27 := u8.then rfl (FR.rngp (lo := 19) (hi := 19) u25 (by decide))
      refine wi_aload_n (i := 0) (x := 18) (nx := 30) (r1 := 0) (r2 := 0) (r3 := 0) rfl rfl ?_
      refine wi_dup (nx := 31) (r1 := 0) (r2 := 0) (r3 := 0) rfl rfl ?_
      refine wr_gi0 (k0 := 18) (x := h8 18 16) (nx := 34) (r1 := 4) (r2 := 16) (r3 := 0) rfl rfl (by decide) rfl ⟨rfl, rfl⟩ rfl (u25 18 16 (fn_a (by omega) fn_0)) ?_
      refine wi_iconst (n := 1) (nx := 35) (r1 := 0) (r2 := 0) (r3 := 0) rfl ?_
      refine wr_add (nx := 36) (r1 := 0) (r2 := 0) (r3 := 0) rfl (fun e28 (fe28 : e28 = (h8 18 16) + 1) => ?_)
      refine wr_pf0 (k0 := 18) (x := e28) (bl := -2147483648) (bh := 2147483647) (nx := 39) (r1 := 4) (r2 := 16) (r3 := 0) rfl (by decide) rfl ⟨rfl, rfl⟩ rfl rfl g25 rfl (by omega) (fun h29 g29 w29 u29 => ?_)
      have F30 := F26.then rfl u29
      have F31 := F27.then rfl u29
      refine wi_iconst (n := 1) (nx := 40) (r1 := 0) (r2 := 0) (r3 := 0) rfl ?_
      refine wi_zreturn (nx := 41) (r1 := 0) (r2 := 0) (r3 := 0) rfl rfl (by omega) ?_
      refine wk_i ?_
      refine wi_if (cd := .eq) (nx := 42) (r1 := 45) (r2 := 0) (r3 := 0) rfl (by omega) (fun (q32 : 1 = 0) => by exfalso; omega) (fun (q32 : ¬ (1 = 0)) => ?_)
      refine wr_iinc (i := 1) (n := 1) (v := x6) (fun e33 => [(1, vi e33), (0, .ref 63), (2, vi x7)]) (nx := 45) (r1 := 0) (r2 := 0) (r3 := 0) rfl rfl (fun _ => rfl) (fun e33 (fe33 : e33 = x6 + 1) => ?_)
      refine wr_iinc (i := 2) (n := 1) (v := x7) (fun e34 => [(2, vi e34), (1, vi e33), (0, .ref 63)]) (nx := 48) (r1 := 0) (r2 := 0) (r3 := 0) rfl rfl (fun _ => rfl) (fun e34 (fe34 : e34 = x7 + 1) => ?_)
      refine wi_goto (nx := 51) (r1 := 4) (r2 := 0) (r3 := 0) rfl ?_
      have e35 : h29 66 1 = h 66 1 := ((u29 66 1 rfl).trans ((u25 66 1 (fn_a (by omega) fn_0)).trans (u8 66 1 rfl)))
      have e36 : h29 18 16 = e28 := w29
      have e37 : h29 18 7 = h 18 7 := ((u29 18 7 rfl).trans ((u25 18 7 (fn_a (by omega) fn_0)).trans (u8 18 7 rfl)))
      have e38 : h29 3 2 = h 3 2 := ((u29 3 2 rfl).trans ((u25 3 2 (fn_a (by omega) fn_0)).trans (u8 3 2 rfl)))
      refine wp.lo (lo := [(0, .ref 63), (1, vi e33), (2, vi e34)]) ⟨rfl, rfl, rfl, trivial⟩ rfl ?_
      have q39 : h29 19 = h25 19 := funext (fun i => (u29 19 i rfl))
      have q40 : h8 19 = h8 19 := funext (fun i => rfl)
      have q41 : h29 19 = h25 19 := funext (fun i => (u29 19 i rfl))
      have q42 : h8 19 = h8 19 := funext (fun i => rfl)
      have q43 : h29 19 = h25 19 := funext (fun i => (u29 19 i rfl))
      have q44 : h8 19 = h8 19 := funext (fun i => rfl)
      exact I8 e33 e34 h29 ⟨g29, F30, F31, (show (0 ≤ e33 ∧ e33 ≤ 12) ∧ (0 ≤ e34 ∧ e34 ≤ 12) ∧ (e34 ≤ (h29 66 1)) ∧ ((h29 66 1) = (h 66 1)) ∧ (e33 ≤ e34) ∧ ((h29 18 16) = (h 18 16) + e33) ∧ ((h29 18 7) = (h 18 7)) ∧ ((h29 3 2) = (h 3 2)) by omega), (fun p e => by
          rw [q39]
          by_cases e1 : (p : Int) = x7
          · rw [show (h 18 7).toNat + p = i22 by omega, w25, show p = i18 by omega]
          · rw [u25 19 _ (fn_i (by omega) fn_0), q40]; exact X8_0 p (by omega)), (fun i e => by rw [q41, u25 19 i (fn_i (by omega) fn_0), q42]; exact X8_1 i (by omega)), (fun e => absurd e (by omega))⟩ (show ((12 : Int) + 1 - e34).toNat < ((12 : Int) + 1 - x7).toNat by omega)
    ·
      refine wi_iconst (n := 0) (nx := 21) (r1 := 0) (r2 := 0) (r3 := 0) rfl ?_
      refine wi_zreturn (nx := 22) (r1 := 0) (r2 := 0) (r3 := 0) rfl rfl (by omega) ?_
      refine wk_i ?_
      refine wi_if (cd := .eq) (nx := 42) (r1 := 45) (r2 := 0) (r3 := 0) rfl (by omega) (fun (q25 : 0 = 0) => ?_) (fun (q25 : ¬ (0 = 0)) => by exfalso; omega)
      refine wr_iinc (i := 2) (n := 1) (v := x7) (fun e26 => [(2, vi e26), (0, .ref 63), (1, vi x6)]) (nx := 48) (r1 := 0) (r2 := 0) (r3 := 0) rfl rfl (fun _ => rfl) (fun e26 (fe26 : e26 = x7 + 1) => ?_)
      refine wi_goto (nx := 51) (r1 := 4) (r2 := 0) (r3 := 0) rfl ?_
      refine wp.lo (lo := [(0, .ref 63), (1, vi x6), (2, vi e26)]) ⟨rfl, rfl, rfl, trivial⟩ rfl ?_
      exact I8 x6 e26 h8 ⟨g8, F9, u8, (show (0 ≤ x6 ∧ x6 ≤ 12) ∧ (0 ≤ e26 ∧ e26 ≤ 12) ∧ (e26 ≤ (h8 66 1)) ∧ ((h8 66 1) = (h 66 1)) ∧ (x6 ≤ e26) ∧ ((h8 18 16) = (h 18 16) + x6) ∧ ((h8 18 7) = (h 18 7)) ∧ ((h8 3 2) = (h 3 2)) by omega), (fun p e => by
          by_cases e1 : (p : Int) = x7
          · rw [show (h 18 7).toNat + p = i22 by omega, show p = i18 by omega]; omega
          · exact X8_0 p (by omega)), (fun i e => X8_1 i (by omega)), X8_2⟩ (show ((12 : Int) + 1 - e26).toNat < ((12 : Int) + 1 - x7).toNat by omega)
-- method 21: Bank.swap()I
set_option maxRecDepth 100000 in
set_option maxHeartbeats 100000000 in
theorem ct_21_0 {L : Nat} {xs : Nat → Int32} {d b c : Nat} {h : hp} {cr : Nat → Nat → Option Nat} {Q : hp_Q} (hcr : CR cr)  (g : GI h)   (pp0 : h 63 5 ≤ h 18 16) (pp1 : h 63 5 < h 18 16 ∨ (h 18 7 ≤ h 3 2 ∧ h 66 1 = h 3 2 - h 18 7) ∨ (h 3 2 < h 18 7 ∧ h 66 1 = 0)) (pp2 : 0 ≤ h 3 9) (pp3 : h 18 16 ≤ 1900000000) (xq0 : MCI h) (k : ∀ (h2 : hp) (z0 : Int) , GI h2 → FR [(19, 19, none), (64, 64, none), (65, 65, none), (67, 67, none), (75, 93, none), (94, 112, none), (113, 131, none), (132, 150, none), (151, 169, none), (170, 188, none), (189, 207, none), (18, 18, some (16, 16)), (63, 63, some (4, 5)), (63, 63, some (7, 7)), (66, 66, some (1, 1)), (73, 73, some (1, 2))] h h2 → (-1 ≤ z0 ∧ z0 ≤ 12) → (h2 63 5 ≤ h2 18 16) → (h2 63 5 < h2 18 16 ∨ (h2 18 7 ≤ h2 3 2 ∧ h2 66 1 = h2 3 2 - h2 18 7) ∨ (h2 3 2 < h2 18 7 ∧ h2 66 1 = 0)) → (h 18 16 ≤ h2 18 16 ∧ h2 18 16 ≤ h 18 16 + 20) → (MCI h2) → Q (.inl (some (vi z0))) (hp_w h2 cr) b c) : wp (md_xa (L, xs)) (d + 20) 21 (0, [(0, .ref 0)], [], hp_w h cr, b, c) Q := by
  have F0 : FR [(19, 19, none), (64, 64, none), (65, 65, none), (67, 67, none), (75, 93, none), (94, 112, none), (113, 131, none), (132, 150, none), (151, 169, none), (170, 188, none), (189, 207, none), (18, 18, some (16, 16)), (63, 63, some (4, 5)), (63, 63, some (7, 7)), (66, 66, some (1, 1)), (73, 73, some (1, 2))] h h := FR.refl
  have b1 := gi_b (lo := -2147483648) (hi := 2147483647) g 63 5 rfl
  have b2 := gi_b (lo := -2147483648) (hi := 2147483647) g 18 16 rfl
  have b3 := gi_b (lo := 0) (hi := 12) g 18 7 rfl
  have b4 := gi_b (lo := 0) (hi := 12) g 3 2 rfl
  have b5 := gi_b (lo := 0) (hi := 12) g 66 1 rfl
  have b6 := gi_b (lo := -2147483648) (hi := 2147483647) g 3 9 rfl
  refine wi_aload_n (i := 0) (x := 0) (nx := 1) (r1 := 0) (r2 := 0) (r3 := 0) rfl rfl ?_
  refine wr_gr (k0 := 0) (x := 73) (nx := 4) (r1 := 0) (r2 := 8) (r3 := 0) rfl rfl (by decide) rfl ⟨rfl, rfl⟩ rfl ?_
  refine wi_aload_n (i := 0) (x := 0) (nx := 5) (r1 := 0) (r2 := 0) (r3 := 0) rfl rfl ?_
  refine wr_gr (k0 := 0) (x := 18) (nx := 8) (r1 := 0) (r2 := 3) (r3 := 0) rfl rfl (by decide) rfl ⟨rfl, rfl⟩ rfl ?_
  refine wr_V (k0 := 73) (rest := []) (as := [.ref 73, .ref 18]) (nx := 11) (r1 := 124) (r2 := 1) (r3 := 9) rfl rfl rfl (of_decide_eq_true rfl) rfl rfl (by decide) rfl rfl (of_decide_eq_true rfl) (of_decide_eq_true rfl) ?_
  refine ct_124_73_18 hcr  g    xq0.1.1 xq0.2.1 (fun h7 g7 u7 y7_0 => ?_)
  have F8 := F0.then (by decide +kernel) u7
  refine wk_n ?_
  refine wi_aload_n (i := 0) (x := 0) (nx := 12) (r1 := 0) (r2 := 0) (r3 := 0) rfl rfl ?_
  refine wr_gr (k0 := 0) (x := 63) (nx := 15) (r1 := 0) (r2 := 6) (r3 := 0) rfl rfl (by decide) rfl ⟨rfl, rfl⟩ rfl ?_
  refine wr_V (k0 := 63) (rest := []) (as := [.ref 63]) (nx := 18) (r1 := 111) (r2 := 0) (r3 := 7) rfl rfl rfl (of_decide_eq_true rfl) rfl rfl (by decide) rfl rfl (of_decide_eq_true rfl) (of_decide_eq_true rfl) ?_
  have e10 : h7 63 5 = h 63 5 := (u7 63 5 rfl)
  have e11 : h7 18 16 = h 18 16 := (u7 18 16 rfl)
  have e12 : h7 18 7 = h 18 7 := (u7 18 7 rfl)
  have e13 : h7 3 2 = h 3 2 := (u7 3 2 rfl)
  have e14 : h7 66 1 = h 66 1 := (u7 66 1 rfl)
  have e15 : h7 3 9 = h 3 9 := (u7 3 9 rfl)
  have q17 : h7 8 = h 8 := funext (fun i => (u7 8 i (fo_no_ok (by decide) i)))
  have q18 : h7 7 = h 7 := funext (fun i => (u7 7 i (fo_no_ok (by decide) i)))
  have q19 : h7 19 = h 19 := funext (fun i => (u7 19 i (fo_no_ok (by decide) i)))
  have q20 : h7 67 = h 67 := funext (fun i => (u7 67 i (fo_no_ok (by decide) i)))
  have ml16 : MCL h7 := MCL.mv xq0.1 q17 q18 q19 q20 (by omega) (by omega) (by omega) (by omega)
  refine ct_111_63 hcr  g7   (show (h7 63 5) ≤ (h7 18 16) by omega) (show (h7 63 5) < (h7 18 16) ∨ ((h7 18 7) ≤ (h7 3 2) ∧ (h7 66 1) = (h7 3 2) - (h7 18 7)) ∨ ((h7 3 2) < (h7 18 7) ∧ (h7 66 1) = 0) by omega) (show 0 ≤ (h7 3 9) by omega) ml16 (fun h9 g9 u9 (p9_0 : (h9 63 5) = (h9 18 16)) (p9_1 : ((h9 18 7) ≤ (h9 3 2) ∧ (h9 66 1) = (h9 3 2) - (h9 18 7)) ∨ ((h9 3 2) < (h9 18 7) ∧ (h9 66 1) = 0)) y9_0 => ?_)
  have F21 := F8.then (by decide +kernel) u9
  have b22 := gi_b (lo := -2147483648) (hi := 2147483647) g9 63 5 rfl
  have e23 : h9 18 16 = h 18 16 := ((u9 18 16 rfl).trans (u7 18 16 rfl))
  have e24 : h9 18 7 = h 18 7 := ((u9 18 7 rfl).trans (u7 18 7 rfl))
  have e25 : h9 3 2 = h 3 2 := ((u9 3 2 rfl).trans (u7 3 2 rfl))
  have b26 := gi_b (lo := 0) (hi := 12) g9 66 1 rfl
  have q28 : h9 8 = h7 8 := funext (fun i => (u9 8 i (fo_no_ok (by decide) i)))
  have q29 : h9 7 = h7 7 := funext (fun i => (u9 7 i (fo_no_ok (by decide) i)))
  have q30 : h9 19 = h7 19 := funext (fun i => (u9 19 i (fo_no_ok (by decide) i)))
  have ml27 : MCL h9 := MCL.plan ml16 y9_0 q28 q29 q30 (by omega) (by omega)
  refine wk_n ?_
  refine wi_aload_n (i := 0) (x := 0) (nx := 19) (r1 := 0) (r2 := 0) (r3 := 0) rfl rfl ?_
  refine wr_gr (k0 := 0) (x := 63) (nx := 22) (r1 := 0) (r2 := 6) (r3 := 0) rfl rfl (by decide) rfl ⟨rfl, rfl⟩ rfl ?_
  refine wr_V (k0 := 63) (rest := []) (as := [.ref 63]) (nx := 25) (r1 := 120) (r2 := 0) (r3 := 7) rfl rfl rfl (of_decide_eq_true rfl) rfl rfl (by decide) rfl rfl (of_decide_eq_true rfl) (of_decide_eq_true rfl) ?_
  refine ct_120_63 hcr  g9   (show (h9 18 16) ≤ 2000000000 by omega) (show (h9 63 5) = (h9 18 16) by omega) (show ((h9 18 7) ≤ (h9 3 2) ∧ (h9 66 1) = (h9 3 2) - (h9 18 7)) ∨ ((h9 3 2) < (h9 18 7) ∧ (h9 66 1) = 0) by omega) ml27 y9_0 (fun h31 z32 g31 u31 (fz32 : 0 ≤ z32 ∧ z32 ≤ 12) (p31_0 : (h9 18 16) ≤ (h31 18 16) ∧ (h31 18 16) ≤ (h9 18 16) + 12) y31_0 => ?_)
  have F33 := F21.then (by decide +kernel) u31
  have b34 := gi_b (lo := -2147483648) (hi := 2147483647) g31 18 16 rfl
  refine wk_i ?_
  refine wi_istore_n (i := 1) (e := z32) (lo2 := [(1, vi z32), (0, .ref 0)]) (nx := 26) (r1 := 0) (r2 := 0) (r3 := 0) rfl rfl ?_
  refine wi_aload_n (i := 0) (x := 0) (nx := 27) (r1 := 0) (r2 := 0) (r3 := 0) rfl rfl ?_
  refine wi_iload_n (i := 1) (e := z32) (nx := 28) (r1 := 0) (r2 := 0) (r3 := 0) rfl rfl ?_
  refine wi_if (cd := .ne) (nx := 31) (r1 := 35) (r2 := 0) (r3 := 0) rfl (by omega) (fun (q35 : z32 ≠ 0) => ?_) (fun (q35 : ¬ (z32 ≠ 0)) => ?_)
  ·
    refine wi_iload_n (i := 1) (e := z32) (nx := 36) (r1 := 0) (r2 := 0) (r3 := 0) rfl rfl ?_
    refine wr_V (k0 := 0) (rest := []) (as := [.ref 0, vi z32]) (nx := 39) (r1 := 20) (r2 := 1) (r3 := 0) rfl rfl rfl (of_decide_eq_true rfl) rfl rfl (by decide) rfl rfl (of_decide_eq_true rfl) (of_decide_eq_true rfl) ?_
    refine wi_iload_n (i := 1) (e := z32) (nx := 1) (r1 := 0) (r2 := 0) (r3 := 0) rfl rfl ?_
    refine wi_iconst (n := (-1)) (nx := 2) (r1 := 0) (r2 := 0) (r3 := 0) rfl ?_
    refine wi_icmp (cd := .eq) (nx := 5) (r1 := 12) (r2 := 0) (r3 := 0) rfl (by omega) (by omega) (fun (q36 : z32 = (-1)) => by exfalso; omega) (fun (q36 : ¬ (z32 = (-1))) => ?_)
    refine wi_aload_n (i := 0) (x := 0) (nx := 6) (r1 := 0) (r2 := 0) (r3 := 0) rfl rfl ?_
    refine wr_gr (k0 := 0) (x := 73) (nx := 9) (r1 := 0) (r2 := 8) (r3 := 0) rfl rfl (by decide) rfl ⟨rfl, rfl⟩ rfl ?_
    refine wr_V (k0 := 73) (rest := []) (as := [.ref 73]) (nx := 12) (r1 := 125) (r2 := 0) (r3 := 9) rfl rfl rfl (of_decide_eq_true rfl) rfl rfl (by decide) rfl rfl (of_decide_eq_true rfl) (of_decide_eq_true rfl) ?_
    refine ct_125_73 hcr  g31    (fun h37 g37 u37 (p37_0 : ((h31 73 1) ≤ 5 ∧ (h37 73 1) = (h31 73 1) + 1) ∨ ((h31 73 1) = 6 ∧ (h37 73 1) = 0)) (p37_1 : ((h31 73 2) ≤ 5 ∧ (h37 73 2) = (h31 73 2) + 1) ∨ ((h31 73 2) = 6 ∧ (h37 73 2) = 6)) => ?_)
    have F38 := F33.then (by decide +kernel) u37
    have b39 := gi_b (lo := 0) (hi := 6) g 73 1 rfl
    have e40 : h31 73 1 = h 73 1 := ((u31 73 1 rfl).trans ((u9 73 1 rfl).trans (u7 73 1 rfl)))
    have b41 := gi_b (lo := 0) (hi := 6) g37 73 1 rfl
    have b42 := gi_b (lo := 0) (hi := 6) g 73 2 rfl
    have e43 : h31 73 2 = h 73 2 := ((u31 73 2 rfl).trans ((u9 73 2 rfl).trans (u7 73 2 rfl)))
    have b44 := gi_b (lo := 0) (hi := 6) g37 73 2 rfl
    refine wk_n ?_
    refine wi_iload_n (i := 1) (e := z32) (nx := 13) (r1 := 0) (r2 := 0) (r3 := 0) rfl rfl ?_
    refine wi_ireturn (nx := 14) (r1 := 0) (r2 := 0) (r3 := 0) rfl rfl ?_
    refine wk_i ?_
    refine wi_ireturn (nx := 40) (r1 := 0) (r2 := 0) (r3 := 0) rfl rfl ?_
    have e45 : h37 63 5 = h9 63 5 := ((u37 63 5 rfl).trans (u31 63 5 rfl))
    have e46 : h37 18 16 = h31 18 16 := (u37 18 16 rfl)
    have e47 : h37 18 7 = h 18 7 := ((u37 18 7 rfl).trans ((u31 18 7 rfl).trans ((u9 18 7 rfl).trans (u7 18 7 rfl))))
    have e48 : h37 3 2 = h 3 2 := ((u37 3 2 rfl).trans ((u31 3 2 rfl).trans ((u9 3 2 rfl).trans (u7 3 2 rfl))))
    have e49 : h37 66 1 = h9 66 1 := ((u37 66 1 rfl).trans (u31 66 1 rfl))
    have e50 : h31 63 5 = h9 63 5 := (u31 63 5 rfl)
    have e51 : h31 18 7 = h 18 7 := ((u31 18 7 rfl).trans ((u9 18 7 rfl).trans (u7 18 7 rfl)))
    have e52 : h31 3 2 = h 3 2 := ((u31 3 2 rfl).trans ((u9 3 2 rfl).trans (u7 3 2 rfl)))
    have e53 : h31 66 1 = h9 66 1 := (u31 66 1 rfl)
    have q55 : h37 8 = h31 8 := funext (fun i => (u37 8 i (fo_no_ok (by decide) i)))
    have q56 : h37 7 = h31 7 := funext (fun i => (u37 7 i (fo_no_ok (by decide) i)))
    have q57 : h37 19 = h31 19 := funext (fun i => (u37 19 i (fo_no_ok (by decide) i)))
    have q58 : h37 67 = h31 67 := funext (fun i => (u37 67 i (fo_no_ok (by decide) i)))
    have ml54 : MCL h37 := MCL.mv y31_0 q55 q56 q57 q58 (by omega) (by omega) (by omega) (by omega)
    have q60 : h37 69 = h 69 := funext (fun i => ((u37 69 i (fo_no_ok (by decide) i)).trans ((u31 69 i (fo_no_ok (by decide) i)).trans ((u9 69 i (fo_no_ok (by decide) i)).trans (u7 69 i (fo_no_ok (by decide) i))))))
    have q61 : h37 70 = h 70 := funext (fun i => ((u37 70 i (fo_no_ok (by decide) i)).trans ((u31 70 i (fo_no_ok (by decide) i)).trans ((u9 70 i (fo_no_ok (by decide) i)).trans (u7 70 i (fo_no_ok (by decide) i))))))
    have nb59 : NBc (h37 69) (h37 70) := by rw [q60, q61]; exact xq0.2.2
    have q62 : h37 8 = h7 8 := funext (fun i => ((u37 8 i (fo_no_ok (by decide) i)).trans ((u31 8 i (fo_no_ok (by decide) i)).trans (u9 8 i (fo_no_ok (by decide) i)))))
    have q63 : h37 7 = h7 7 := funext (fun i => ((u37 7 i (fo_no_ok (by decide) i)).trans ((u31 7 i (fo_no_ok (by decide) i)).trans (u9 7 i (fo_no_ok (by decide) i)))))
    have e64 : h7 73 1 = h 73 1 := (u7 73 1 rfl)
    have e65 : h7 73 2 = h 73 2 := (u7 73 2 rfl)
    exact k h37 z32 g37 F38 (by omega) (show (h37 63 5) ≤ (h37 18 16) by omega) (show (h37 63 5) < (h37 18 16) ∨ ((h37 18 7) ≤ (h37 3 2) ∧ (h37 66 1) = (h37 3 2) - (h37 18 7)) ∨ ((h37 3 2) < (h37 18 7) ∧ (h37 66 1) = 0) by omega) (show (h 18 16) ≤ (h37 18 16) ∧ (h37 18 16) ≤ (h 18 16) + 20 by omega) ⟨ml54, (HIv.k y7_0 q62 q63 (by omega) (by omega) (sv_seven (P := fun x => ∀ i, h37 (76 + 19 * x) i = h7 (76 + 19 * x) i) (fun i => ((u37 76 i (fn_a (by omega) fn_0)).trans ((u31 76 i (fn_a (by omega) (fn_a (by omega) fn_0))).trans (u9 76 i (fo_nk rfl))))) (fun i => ((u37 95 i (fn_a (by omega) fn_0)).trans ((u31 95 i (fn_a (by omega) (fn_a (by omega) fn_0))).trans (u9 95 i (fo_nk rfl))))) (fun i => ((u37 114 i (fn_a (by omega) fn_0)).trans ((u31 114 i (fn_a (by omega) (fn_a (by omega) fn_0))).trans (u9 114 i (fo_nk rfl))))) (fun i => ((u37 133 i (fn_a (by omega) fn_0)).trans ((u31 133 i (fn_a (by omega) (fn_a (by omega) fn_0))).trans (u9 133 i (fo_nk rfl))))) (fun i => ((u37 152 i (fn_a (by omega) fn_0)).trans ((u31 152 i (fn_a (by omega) (fn_a (by omega) fn_0))).trans (u9 152 i (fo_nk rfl))))) (fun i => ((u37 171 i (fn_a (by omega) fn_0)).trans ((u31 171 i (fn_a (by omega) (fn_a (by omega) fn_0))).trans (u9 171 i (fo_nk rfl))))) (fun i => ((u37 190 i (fn_a (by omega) fn_0)).trans ((u31 190 i (fn_a (by omega) (fn_a (by omega) fn_0))).trans (u9 190 i (fo_nk rfl)))))) (by omega) (by omega)), nb59⟩
  ·
    refine wi_iconst (n := (-1)) (nx := 32) (r1 := 0) (r2 := 0) (r3 := 0) rfl ?_
    refine wi_goto (nx := 35) (r1 := 36) (r2 := 0) (r3 := 0) rfl ?_
    refine wr_V (k0 := 0) (rest := []) (as := [.ref 0, vi (-1)]) (nx := 39) (r1 := 20) (r2 := 1) (r3 := 0) rfl rfl rfl (of_decide_eq_true rfl) rfl rfl (by decide) rfl rfl (of_decide_eq_true rfl) (of_decide_eq_true rfl) ?_
    refine wi_iload_n (i := 1) (e := -1) (nx := 1) (r1 := 0) (r2 := 0) (r3 := 0) rfl rfl ?_
    refine wi_iconst (n := (-1)) (nx := 2) (r1 := 0) (r2 := 0) (r3 := 0) rfl ?_
    refine wi_icmp (cd := .eq) (nx := 5) (r1 := 12) (r2 := 0) (r3 := 0) rfl (by omega) (by omega) (fun (q36 : (-1) = (-1)) => ?_) (fun (q36 : ¬ ((-1) = (-1))) => by exfalso; omega)
    refine wi_iload_n (i := 1) (e := -1) (nx := 13) (r1 := 0) (r2 := 0) (r3 := 0) rfl rfl ?_
    refine wi_ireturn (nx := 14) (r1 := 0) (r2 := 0) (r3 := 0) rfl rfl ?_
    refine wk_i ?_
    refine wi_ireturn (nx := 40) (r1 := 0) (r2 := 0) (r3 := 0) rfl rfl ?_
    have e37 : h31 63 5 = h9 63 5 := (u31 63 5 rfl)
    have e38 : h31 18 7 = h 18 7 := ((u31 18 7 rfl).trans ((u9 18 7 rfl).trans (u7 18 7 rfl)))
    have e39 : h31 3 2 = h 3 2 := ((u31 3 2 rfl).trans ((u9 3 2 rfl).trans (u7 3 2 rfl)))
    have e40 : h31 66 1 = h9 66 1 := (u31 66 1 rfl)
    have q42 : h31 69 = h 69 := funext (fun i => ((u31 69 i (fo_no_ok (by decide) i)).trans ((u9 69 i (fo_no_ok (by decide) i)).trans (u7 69 i (fo_no_ok (by decide) i)))))
    have q43 : h31 70 = h 70 := funext (fun i => ((u31 70 i (fo_no_ok (by decide) i)).trans ((u9 70 i (fo_no_ok (by decide) i)).trans (u7 70 i (fo_no_ok (by decide) i)))))
    have nb41 : NBc (h31 69) (h31 70) := by rw [q42, q43]; exact xq0.2.2
    have q44 : h31 8 = h7 8 := funext (fun i => ((u31 8 i (fo_no_ok (by decide) i)).trans (u9 8 i (fo_no_ok (by decide) i))))
    have q45 : h31 7 = h7 7 := funext (fun i => ((u31 7 i (fo_no_ok (by decide) i)).trans (u9 7 i (fo_no_ok (by decide) i))))
    have b46 := gi_b (lo := 0) (hi := 6) g 73 1 rfl
    have e47 : h31 73 1 = h 73 1 := ((u31 73 1 rfl).trans ((u9 73 1 rfl).trans (u7 73 1 rfl)))
    have e48 : h7 73 1 = h 73 1 := (u7 73 1 rfl)
    have b49 := gi_b (lo := 0) (hi := 6) g 73 2 rfl
    have e50 : h31 73 2 = h 73 2 := ((u31 73 2 rfl).trans ((u9 73 2 rfl).trans (u7 73 2 rfl)))
    have e51 : h7 73 2 = h 73 2 := (u7 73 2 rfl)
    exact k h31 (-1) g31 F33 (by omega) (show (h31 63 5) ≤ (h31 18 16) by omega) (show (h31 63 5) < (h31 18 16) ∨ ((h31 18 7) ≤ (h31 3 2) ∧ (h31 66 1) = (h31 3 2) - (h31 18 7)) ∨ ((h31 3 2) < (h31 18 7) ∧ (h31 66 1) = 0) by omega) (show (h 18 16) ≤ (h31 18 16) ∧ (h31 18 16) ≤ (h 18 16) + 20 by omega) ⟨y31_0, (HIv.n y7_0 q44 q45 (by omega) (by omega) (sv_seven (P := fun x => ∀ i, h31 (76 + 19 * x) i = h7 (76 + 19 * x) i) (fun i => ((u31 76 i (fn_a (by omega) (fn_a (by omega) fn_0))).trans (u9 76 i (fo_nk rfl)))) (fun i => ((u31 95 i (fn_a (by omega) (fn_a (by omega) fn_0))).trans (u9 95 i (fo_nk rfl)))) (fun i => ((u31 114 i (fn_a (by omega) (fn_a (by omega) fn_0))).trans (u9 114 i (fo_nk rfl)))) (fun i => ((u31 133 i (fn_a (by omega) (fn_a (by omega) fn_0))).trans (u9 133 i (fo_nk rfl)))) (fun i => ((u31 152 i (fn_a (by omega) (fn_a (by omega) fn_0))).trans (u9 152 i (fo_nk rfl)))) (fun i => ((u31 171 i (fn_a (by omega) (fn_a (by omega) fn_0))).trans (u9 171 i (fo_nk rfl)))) (fun i => ((u31 190 i (fn_a (by omega) (fn_a (by omega) fn_0))).trans (u9 190 i (fo_nk rfl))))) (by omega) (by omega)), nb41⟩
-- method 27: Bank.swapChanges()I
set_option maxRecDepth 100000 in
set_option maxHeartbeats 100000000 in
theorem ct_27_0 {L : Nat} {xs : Nat → Int32} {d b c : Nat} {h : hp} {cr : Nat → Nat → Option Nat} {Q : hp_Q} (hcr : CR cr)  (g : GI h)   (pp0 : h 63 5 ≤ h 18 16) (pp1 : h 63 5 < h 18 16 ∨ (h 18 7 ≤ h 3 2 ∧ h 66 1 = h 3 2 - h 18 7) ∨ (h 3 2 < h 18 7 ∧ h 66 1 = 0)) (pp2 : 0 ≤ h 3 9) (pp3 : h 18 16 ≤ 1900000000) (xq0 : MCI h) (k : ∀ (h2 : hp) (z0 : Int) , GI h2 → FR [(64, 64, none), (65, 65, none), (67, 67, none), (63, 63, some (4, 5)), (63, 63, some (7, 7)), (66, 66, some (1, 1))] h h2 → (-2147483648 ≤ z0 ∧ z0 ≤ 2147483647) → (h2 63 5 ≤ h2 18 16) → (h2 63 5 < h2 18 16 ∨ (h2 18 7 ≤ h2 3 2 ∧ h2 66 1 = h2 3 2 - h2 18 7) ∨ (h2 3 2 < h2 18 7 ∧ h2 66 1 = 0)) → (h 18 16 ≤ h2 18 16 ∧ h2 18 16 ≤ h 18 16 + 0) → (MCI h2) → Q (.inl (some (vi z0))) (hp_w h2 cr) b c) : wp (md_xa (L, xs)) (d + 20) 27 (0, [(0, .ref 0)], [], hp_w h cr, b, c) Q := by
  have F0 : FR [(64, 64, none), (65, 65, none), (67, 67, none), (63, 63, some (4, 5)), (63, 63, some (7, 7)), (66, 66, some (1, 1))] h h := FR.refl
  have b1 := gi_b (lo := -2147483648) (hi := 2147483647) g 63 5 rfl
  have b2 := gi_b (lo := -2147483648) (hi := 2147483647) g 18 16 rfl
  have b3 := gi_b (lo := 0) (hi := 12) g 18 7 rfl
  have b4 := gi_b (lo := 0) (hi := 12) g 3 2 rfl
  have b5 := gi_b (lo := 0) (hi := 12) g 66 1 rfl
  have b6 := gi_b (lo := -2147483648) (hi := 2147483647) g 3 9 rfl
  refine wi_aload_n (i := 0) (x := 0) (nx := 1) (r1 := 0) (r2 := 0) (r3 := 0) rfl rfl ?_
  refine wr_gr (k0 := 0) (x := 63) (nx := 4) (r1 := 0) (r2 := 6) (r3 := 0) rfl rfl (by decide) rfl ⟨rfl, rfl⟩ rfl ?_
  refine wr_V (k0 := 63) (rest := []) (as := [.ref 63]) (nx := 7) (r1 := 111) (r2 := 0) (r3 := 7) rfl rfl rfl (of_decide_eq_true rfl) rfl rfl (by decide) rfl rfl (of_decide_eq_true rfl) (of_decide_eq_true rfl) ?_
  refine ct_111_63 hcr  g   (show (h 63 5) ≤ (h 18 16) by omega) (show (h 63 5) < (h 18 16) ∨ ((h 18 7) ≤ (h 3 2) ∧ (h 66 1) = (h 3 2) - (h 18 7)) ∨ ((h 3 2) < (h 18 7) ∧ (h 66 1) = 0) by omega) (show 0 ≤ (h 3 9) by omega) xq0.1 (fun h7 g7 u7 (p7_0 : (h7 63 5) = (h7 18 16)) (p7_1 : ((h7 18 7) ≤ (h7 3 2) ∧ (h7 66 1) = (h7 3 2) - (h7 18 7)) ∨ ((h7 3 2) < (h7 18 7) ∧ (h7 66 1) = 0)) y7_0 => ?_)
  have F8 := F0.then (by decide +kernel) u7
  have b9 := gi_b (lo := -2147483648) (hi := 2147483647) g7 63 5 rfl
  have e10 : h7 18 16 = h 18 16 := (u7 18 16 rfl)
  have e11 : h7 18 7 = h 18 7 := (u7 18 7 rfl)
  have e12 : h7 3 2 = h 3 2 := (u7 3 2 rfl)
  have b13 := gi_b (lo := 0) (hi := 12) g7 66 1 rfl
  have q15 : h7 8 = h 8 := funext (fun i => (u7 8 i (fo_no_ok (by decide) i)))
  have q16 : h7 7 = h 7 := funext (fun i => (u7 7 i (fo_no_ok (by decide) i)))
  have q17 : h7 19 = h 19 := funext (fun i => (u7 19 i (fo_no_ok (by decide) i)))
  have ml14 : MCL h7 := MCL.plan xq0.1 y7_0 q15 q16 q17 (by omega) (by omega)
  refine wk_n ?_
  refine wi_aload_n (i := 0) (x := 0) (nx := 8) (r1 := 0) (r2 := 0) (r3 := 0) rfl rfl ?_
  refine wr_gr (k0 := 0) (x := 63) (nx := 11) (r1 := 0) (r2 := 6) (r3 := 0) rfl rfl (by decide) rfl ⟨rfl, rfl⟩ rfl ?_
  have b18 := gi_b (lo := -2147483648) (hi := 2147483647) g7 63 7 rfl
  refine wr_gi0 (k0 := 63) (x := h7 63 7) (nx := 14) (r1 := 7) (r2 := 7) (r3 := 0) rfl rfl (by decide) rfl ⟨rfl, rfl⟩ rfl rfl ?_
  refine wi_ireturn (nx := 15) (r1 := 0) (r2 := 0) (r3 := 0) rfl rfl ?_
  have q20 : h7 69 = h 69 := funext (fun i => (u7 69 i (fo_no_ok (by decide) i)))
  have q21 : h7 70 = h 70 := funext (fun i => (u7 70 i (fo_no_ok (by decide) i)))
  have nb19 : NBc (h7 69) (h7 70) := by rw [q20, q21]; exact xq0.2.2
  have q22 : h7 8 = h 8 := funext (fun i => (u7 8 i (fo_no_ok (by decide) i)))
  have q23 : h7 7 = h 7 := funext (fun i => (u7 7 i (fo_no_ok (by decide) i)))
  have b24 := gi_b (lo := 0) (hi := 6) g 73 1 rfl
  have e25 : h7 73 1 = h 73 1 := (u7 73 1 rfl)
  have b26 := gi_b (lo := 0) (hi := 6) g 73 2 rfl
  have e27 : h7 73 2 = h 73 2 := (u7 73 2 rfl)
  exact k h7 (h7 63 7) g7 F8 (by omega) (show (h7 63 5) ≤ (h7 18 16) by omega) (show (h7 63 5) < (h7 18 16) ∨ ((h7 18 7) ≤ (h7 3 2) ∧ (h7 66 1) = (h7 3 2) - (h7 18 7)) ∨ ((h7 3 2) < (h7 18 7) ∧ (h7 66 1) = 0) by omega) (show (h 18 16) ≤ (h7 18 16) ∧ (h7 18 16) ≤ (h 18 16) + 0 by omega) ⟨ml14, (HIv.mv xq0.2.1 q22 q23 (by omega) (by omega) (sv_seven (P := fun x => ∀ i, h7 (76 + 19 * x) i = h (76 + 19 * x) i) (fun i => (u7 76 i (fo_nk rfl))) (fun i => (u7 95 i (fo_nk rfl))) (fun i => (u7 114 i (fo_nk rfl))) (fun i => (u7 133 i (fo_nk rfl))) (fun i => (u7 152 i (fo_nk rfl))) (fun i => (u7 171 i (fo_nk rfl))) (fun i => (u7 190 i (fo_nk rfl)))) (by omega) (by omega)), nb19⟩
-- method 15: Bank.time()I
set_option maxRecDepth 100000 in
set_option maxHeartbeats 100000000 in
theorem ct_15_0 {L : Nat} {xs : Nat → Int32} {d b c : Nat} {h : hp} {cr : Nat → Nat → Option Nat} {Q : hp_Q} (hcr : CR cr)  (g : GI h)    (k : ∀ (z0 : Int), (-2147483648 ≤ z0 ∧ z0 ≤ 2147483647) → Q (.inl (some (vi z0))) (hp_w h cr) b c) : wp (md_xa (L, xs)) d 15 (0, [(0, .ref 0)], [], hp_w h cr, b, c) Q := by
  have F0 : FR [] h h := FR.refl
  refine wi_aload_n (i := 0) (x := 0) (nx := 1) (r1 := 0) (r2 := 0) (r3 := 0) rfl rfl ?_
  refine wr_gr (k0 := 0) (x := 18) (nx := 4) (r1 := 0) (r2 := 3) (r3 := 0) rfl rfl (by decide) rfl ⟨rfl, rfl⟩ rfl ?_
  have b1 := gi_b (lo := -2147483648) (hi := 2147483647) g 18 10 rfl
  refine wr_gi0 (k0 := 18) (x := h 18 10) (nx := 7) (r1 := 4) (r2 := 10) (r3 := 0) rfl rfl (by decide) rfl ⟨rfl, rfl⟩ rfl rfl ?_
  refine wi_ireturn (nx := 8) (r1 := 0) (r2 := 0) (r3 := 0) rfl rfl ?_
  exact k (h 18 10) (by omega)
-- method 30: Bank.truncate(I)I
set_option maxRecDepth 100000 in
set_option maxHeartbeats 100000000 in
theorem ct_30_0 {L : Nat} {xs : Nat → Int32} {d b c : Nat} {h : hp} {cr : Nat → Nat → Option Nat} {Q : hp_Q} (hcr : CR cr) (hr : 1 ≤ b ∧ 6 ≤ c)  (g : GI h) (a0 : Int) (q0_ : -2147483648 ≤ a0 ∧ a0 ≤ 2147483647)  (k : ∀ (h2 : hp) (z0 : Int) , GI h2 → FR [(1, 1, some (1, 1))] h h2 → (0 ≤ z0 ∧ z0 ≤ 800) → (0 ≤ a0 ∧ a0 ≤ h 1 1) → (h2 1 1 = a0) → (z0 = a0) → Q (.inl (some (vi z0))) (hp_w h2 cr) b c) (kx1 : ∀ (h2 : hp), GI h2 → FR [(1, 1, some (1, 1))] h h2 → (a0 < 0 ∨ h 1 1 < a0) → (h2 1 1 = h 1 1) → Q (.inr 1) (hp_w h2 cr) (b - 1) (c - 6)) : wp (md_xa (L, xs)) d 30 (0, [(0, .ref 0), (1, vi a0)], [], hp_w h cr, b, c) Q := by
  have F0 : FR [(1, 1, some (1, 1))] h h := FR.refl
  refine wi_iload_n (i := 1) (e := a0) (nx := 1) (r1 := 0) (r2 := 0) (r3 := 0) rfl rfl ?_
  refine wi_if (cd := .lt) (nx := 4) (r1 := 15) (r2 := 0) (r3 := 0) rfl (by omega) (fun (q1 : a0 < 0) => ?_) (fun (q1 : ¬ (a0 < 0)) => ?_)
  ·
    refine wr_throw (Ex := 1) (nx := 18) (r1 := 1) (r2 := 0) (r3 := 1) rfl (by decide) rfl hr (by decide) ?_
    have b2 := gi_b (lo := 0) (hi := 800) g 1 1 rfl
    exact kx1 h g F0 (show a0 < 0 ∨ (h 1 1) < a0 by omega) (show (h 1 1) = (h 1 1) by omega)
  ·
    refine wi_iload_n (i := 1) (e := a0) (nx := 5) (r1 := 0) (r2 := 0) (r3 := 0) rfl rfl ?_
    refine wi_aload_n (i := 0) (x := 0) (nx := 6) (r1 := 0) (r2 := 0) (r3 := 0) rfl rfl ?_
    refine wr_gr (k0 := 0) (x := 1) (nx := 9) (r1 := 0) (r2 := 0) (r3 := 0) rfl rfl (by decide) rfl ⟨rfl, rfl⟩ rfl ?_
    have b2 := gi_b (lo := 0) (hi := 800) g 1 1 rfl
    refine wr_gi0 (k0 := 1) (x := h 1 1) (nx := 12) (r1 := 1) (r2 := 1) (r3 := 0) rfl rfl (by decide) rfl ⟨rfl, rfl⟩ rfl rfl ?_
    refine wi_icmp (cd := .le) (nx := 15) (r1 := 25) (r2 := 0) (r3 := 0) rfl (by omega) (by omega) (fun (q3 : a0 ≤ (h 1 1)) => ?_) (fun (q3 : ¬ (a0 ≤ (h 1 1))) => ?_)
    ·
      refine wi_aload_n (i := 0) (x := 0) (nx := 26) (r1 := 0) (r2 := 0) (r3 := 0) rfl rfl ?_
      refine wr_gr (k0 := 0) (x := 1) (nx := 29) (r1 := 0) (r2 := 0) (r3 := 0) rfl rfl (by decide) rfl ⟨rfl, rfl⟩ rfl ?_
      refine wi_iload_n (i := 1) (e := a0) (nx := 30) (r1 := 0) (r2 := 0) (r3 := 0) rfl rfl ?_
      refine wr_pf0 (k0 := 1) (x := a0) (bl := 0) (bh := 800) (nx := 33) (r1 := 1) (r2 := 1) (r3 := 0) rfl (by decide) rfl ⟨rfl, rfl⟩ rfl rfl g rfl (by omega) (fun h4 g4 w4 u4 => ?_)
      have F5 := F0.then rfl u4
      refine wi_iload_n (i := 1) (e := a0) (nx := 34) (r1 := 0) (r2 := 0) (r3 := 0) rfl rfl ?_
      refine wi_ireturn (nx := 35) (r1 := 0) (r2 := 0) (r3 := 0) rfl rfl ?_
      have e6 : h4 1 1 = a0 := w4
      exact k h4 a0 g4 F5 (by omega) (show 0 ≤ a0 ∧ a0 ≤ (h 1 1) by omega) (show (h4 1 1) = a0 by omega) (show a0 = a0 by omega)
    ·
      refine wr_throw (Ex := 1) (nx := 18) (r1 := 1) (r2 := 0) (r3 := 1) rfl (by decide) rfl hr (by decide) ?_
      exact kx1 h g F0 (show a0 < 0 ∨ (h 1 1) < a0 by omega) (show (h 1 1) = (h 1 1) by omega)
-- method 89: Line.carsInLanes()I
set_option maxRecDepth 100000 in
set_option maxHeartbeats 100000000 in
theorem ct_89_18 {L : Nat} {xs : Nat → Int32} {d b c : Nat} {h : hp} {cr : Nat → Nat → Option Nat} {Q : hp_Q} (hcr : CR cr)  (g : GI h)    (k : ∀ (z0 : Int), (0 ≤ z0 ∧ z0 ≤ 48) → Q (.inl (some (vi z0))) (hp_w h cr) b c) : wp (md_xa (L, xs)) d 89 (0, [(0, .ref 18)], [], hp_w h cr, b, c) Q := by
  have F0 : FR [] h h := FR.refl
  refine wi_iconst (n := 0) (nx := 1) (r1 := 0) (r2 := 0) (r3 := 0) rfl ?_
  refine wi_istore_n (i := 1) (e := 0) (lo2 := [(1, vi 0), (0, .ref 18)]) (nx := 2) (r1 := 0) (r2 := 0) (r3 := 0) rfl rfl ?_
  refine wi_iconst (n := 0) (nx := 3) (r1 := 0) (r2 := 0) (r3 := 0) rfl ?_
  refine wi_istore_n (i := 2) (e := 0) (lo2 := [(2, vi 0), (1, vi 0), (0, .ref 18)]) (nx := 4) (r1 := 0) (r2 := 0) (r3 := 0) rfl rfl ?_
  refine wp.lo (lo := [(0, .ref 18), (1, vi 0), (2, vi 0)]) ⟨rfl, rfl, rfl, trivial⟩ rfl ?_
  refine wl_2 (fun x1 x2 h3 => h = h3 ∧ ((0 ≤ x1 ∧ x1 ≤ 48) ∧ (0 ≤ x2 ∧ x2 ≤ 4) ∧ (x1 ≤ 12 * x2))) (fun x1 x2 h3 => ((4 : Int) + 1 - x2).toNat) (fun x1 x2 h3 => (4, [(0, .ref 18), (1, vi x1), (2, vi x2)], [], hp_w h3 cr, b, c)) ?_ 0 0 h ⟨rfl, (show (0 ≤ 0 ∧ 0 ≤ 48) ∧ (0 ≤ 0 ∧ 0 ≤ 4) ∧ (0 ≤ 12 * 0) by omega)⟩
  intro x1 x2 h3 ⟨e3, f3⟩ I3
  subst e3
  refine wi_iload_n (i := 2) (e := x2) (nx := 5) (r1 := 0) (r2 := 0) (r3 := 0) rfl rfl ?_
  refine wi_aload_n (i := 0) (x := 18) (nx := 6) (r1 := 0) (r2 := 0) (r3 := 0) rfl rfl ?_
  refine wr_gr (k0 := 18) (x := 3) (nx := 9) (r1 := 4) (r2 := 0) (r3 := 0) rfl rfl (by decide) rfl ⟨rfl, rfl⟩ rfl ?_
  have b5 := gi_b (lo := 0) (hi := 4) g 3 1 rfl
  refine wr_gi0 (k0 := 3) (x := h 3 1) (nx := 12) (r1 := 2) (r2 := 1) (r3 := 0) rfl rfl (by decide) rfl ⟨rfl, rfl⟩ rfl rfl ?_
  refine wi_icmp (cd := .ge) (nx := 15) (r1 := 33) (r2 := 0) (r3 := 0) rfl (by omega) (by omega) (fun (q6 : (h 3 1) ≤ x2) => ?_) (fun (q6 : ¬ ((h 3 1) ≤ x2)) => ?_)
  ·
    refine wi_iload_n (i := 1) (e := x1) (nx := 34) (r1 := 0) (r2 := 0) (r3 := 0) rfl rfl ?_
    refine wi_ireturn (nx := 35) (r1 := 0) (r2 := 0) (r3 := 0) rfl rfl ?_
    exact k x1 (by omega)
  ·
    refine wi_iload_n (i := 1) (e := x1) (nx := 16) (r1 := 0) (r2 := 0) (r3 := 0) rfl rfl ?_
    refine wi_aload_n (i := 0) (x := 18) (nx := 17) (r1 := 0) (r2 := 0) (r3 := 0) rfl rfl ?_
    refine wr_gr (k0 := 18) (x := 21) (nx := 20) (r1 := 4) (r2 := 3) (r3 := 0) rfl rfl (by decide) rfl ⟨rfl, rfl⟩ rfl ?_
    refine wi_iload_n (i := 2) (e := x2) (nx := 21) (r1 := 0) (r2 := 0) (r3 := 0) rfl rfl ?_
    obtain ⟨i7, ei7⟩ : ∃ q : Nat, x2 = (q : Int) := ⟨(x2).toNat, by omega⟩
    refine wr_aa (k0 := 21) (a := x2) (f := i7) (x := 21 + 8 + 2 * i7) (nx := 22) (r1 := 0) (r2 := 0) (r3 := 0) rfl (by decide) rfl (Or.inl rfl) (by omega) (by omega) (by decide) (hcr.1 21 (by decide) i7 (by omega)) ?_
    obtain ⟨k8, kk8, mk8⟩ : ∃ q, Rw q ∧ q = 21 + 8 + 2 * i7 := ⟨_, rw_lane 21 (by decide) i7 (by omega), rfl⟩
    rw [← mk8]
    have b9 := gi_b (lo := 0) (hi := 12) g k8 1 kk8.2.2.2.1
    refine wr_gi0 (k0 := k8) (x := h k8 1) (nx := 25) (r1 := 5) (r2 := 1) (r3 := 0) rfl rfl kk8.k kk8.1 ⟨rfl, rfl⟩ rfl rfl ?_
    refine wr_add (nx := 26) (r1 := 0) (r2 := 0) (r3 := 0) rfl (fun e10 (fe10 : e10 = x1 + (h k8 1)) => ?_)
    refine wi_istore_n (i := 1) (e := e10) (lo2 := [(1, vi e10), (0, .ref 18), (2, vi x2)]) (nx := 27) (r1 := 0) (r2 := 0) (r3 := 0) rfl rfl ?_
    refine wr_iinc (i := 2) (n := 1) (v := x2) (fun e11 => [(2, vi e11), (1, vi e10), (0, .ref 18)]) (nx := 30) (r1 := 0) (r2 := 0) (r3 := 0) rfl rfl (fun _ => rfl) (fun e11 (fe11 : e11 = x2 + 1) => ?_)
    refine wi_goto (nx := 33) (r1 := 4) (r2 := 0) (r3 := 0) rfl ?_
    refine wp.lo (lo := [(0, .ref 18), (1, vi e10), (2, vi e11)]) ⟨rfl, rfl, rfl, trivial⟩ rfl ?_
    exact I3 e10 e11 h ⟨rfl, (show (0 ≤ e10 ∧ e10 ≤ 48) ∧ (0 ≤ e11 ∧ e11 ≤ 4) ∧ (e10 ≤ 12 * e11) by omega)⟩ (show ((4 : Int) + 1 - e11).toNat < ((4 : Int) + 1 - x2).toNat by omega)
-- method 103: Unloading.weighLanes()I
set_option maxRecDepth 100000 in
set_option maxHeartbeats 100000000 in
theorem ct_103_56 {L : Nat} {xs : Nat → Int32} {d b c : Nat} {h : hp} {cr : Nat → Nat → Option Nat} {Q : hp_Q} (hcr : CR cr)  (g : GI h)    (k : ∀ (h2 : hp) (z0 : Int) , GI h2 → FR [(59, 59, none), (60, 60, none)] h h2 → (-2147483648 ≤ z0 ∧ z0 ≤ 2147483647) → Q (.inl (some (vi z0))) (hp_w h2 cr) b c) : wp (md_xa (L, xs)) d 103 (0, [(0, .ref 56)], [], hp_w h cr, b, c) Q := by
  have F0 : FR [(59, 59, none), (60, 60, none)] h h := FR.refl
  refine wi_iconst (n := 1) (nx := 1) (r1 := 0) (r2 := 0) (r3 := 0) rfl ?_
  refine wi_istore_n (i := 1) (e := 1) (lo2 := [(1, vi 1), (0, .ref 56)]) (nx := 2) (r1 := 0) (r2 := 0) (r3 := 0) rfl rfl ?_
  refine wi_iconst (n := 0) (nx := 3) (r1 := 0) (r2 := 0) (r3 := 0) rfl ?_
  refine wi_istore_n (i := 2) (e := 0) (lo2 := [(2, vi 0), (1, vi 1), (0, .ref 56)]) (nx := 4) (r1 := 0) (r2 := 0) (r3 := 0) rfl rfl ?_
  refine wp.lo (lo := [(0, .ref 56), (1, vi 1), (2, vi 0)]) ⟨rfl, rfl, rfl, trivial⟩ rfl ?_
  refine wl_2 (fun x1 x2 h3 => GI h3 ∧ FR [(59, 59, none), (60, 60, none)] h h3 ∧ FR [(59, 59, none), (60, 60, none)] h h3 ∧ ((-2147483648 ≤ x1 ∧ x1 ≤ 2147483647) ∧ (0 ≤ x2 ∧ x2 ≤ 4))) (fun x1 x2 h3 => ((4 : Int) + 1 - x2).toNat) (fun x1 x2 h3 => (4, [(0, .ref 56), (1, vi x1), (2, vi x2)], [], hp_w h3 cr, b, c)) ?_ 1 0 h ⟨g, F0, FR.refl, (show (-2147483648 ≤ 1 ∧ 1 ≤ 2147483647) ∧ (0 ≤ 0 ∧ 0 ≤ 4) by omega)⟩
  intro x1 x2 h3 ⟨g3, F4, u3, f3⟩ I3
  refine wi_iload_n (i := 2) (e := x2) (nx := 5) (r1 := 0) (r2 := 0) (r3 := 0) rfl rfl ?_
  refine wi_iconst (n := 4) (nx := 6) (r1 := 0) (r2 := 0) (r3 := 0) rfl ?_
  refine wi_icmp (cd := .ge) (nx := 9) (r1 := 46) (r2 := 0) (r3 := 0) rfl (by omega) (by omega) (fun (q5 : 4 ≤ x2) => ?_) (fun (q5 : ¬ (4 ≤ x2)) => ?_)
  ·
    refine wi_iload_n (i := 1) (e := x1) (nx := 47) (r1 := 0) (r2 := 0) (r3 := 0) rfl rfl ?_
    refine wi_ireturn (nx := 48) (r1 := 0) (r2 := 0) (r3 := 0) rfl rfl ?_
    exact k h3 x1 g3 F4 (by omega)
  ·
    refine wi_aload_n (i := 0) (x := 56) (nx := 10) (r1 := 0) (r2 := 0) (r3 := 0) rfl rfl ?_
    refine wr_gr (k0 := 56) (x := 59) (nx := 13) (r1 := 6) (r2 := 4) (r3 := 0) rfl rfl (by decide) rfl ⟨rfl, rfl⟩ rfl ?_
    refine wi_iload_n (i := 2) (e := x2) (nx := 14) (r1 := 0) (r2 := 0) (r3 := 0) rfl rfl ?_
    refine wi_iconst (n := 0) (nx := 15) (r1 := 0) (r2 := 0) (r3 := 0) rfl ?_
    obtain ⟨i6, ei6⟩ : ∃ q : Nat, x2 = (q : Int) := ⟨(x2).toNat, by omega⟩
    refine wr_is (k0 := 59) (a := x2) (f := i6) (x := 0) (bl := -2147483648) (bh := 2147483647) (nx := 16) (r1 := 0) (r2 := 0) (r3 := 0) rfl (by decide) rfl (by omega) (by omega) (by decide) g3 rfl (by omega) (fun h7 g7 w7 u7 => ?_)
    have F8 := F4.then rfl (FR.rngp (lo := 59) (hi := 59) u7 (by decide))
    have F9 := u3.then rfl (FR.rngp (lo := 59) (hi := 59) u7 (by decide))
    refine wi_aload_n (i := 0) (x := 56) (nx := 17) (r1 := 0) (r2 := 0) (r3 := 0) rfl rfl ?_
    refine wr_gr (k0 := 56) (x := 60) (nx := 20) (r1 := 6) (r2 := 5) (r3 := 0) rfl rfl (by decide) rfl ⟨rfl, rfl⟩ rfl ?_
    refine wi_iload_n (i := 2) (e := x2) (nx := 21) (r1 := 0) (r2 := 0) (r3 := 0) rfl rfl ?_
    refine wi_iload_n (i := 1) (e := x1) (nx := 22) (r1 := 0) (r2 := 0) (r3 := 0) rfl rfl ?_
    refine wr_is (k0 := 60) (a := x2) (f := i6) (x := x1) (bl := -2147483648) (bh := 2147483647) (nx := 23) (r1 := 0) (r2 := 0) (r3 := 0) rfl (by decide) rfl (by omega) (by omega) (by decide) g7 rfl (by omega) (fun h10 g10 w10 u10 => ?_)
    have F11 := F8.then rfl (FR.rngp (lo := 60) (hi := 60) u10 (by decide))
    have F12 := F9.then rfl (FR.rngp (lo := 60) (hi := 60) u10 (by decide))
    refine wi_iload_n (i := 1) (e := x1) (nx := 24) (r1 := 0) (r2 := 0) (r3 := 0) rfl rfl ?_
    refine wi_aload_n (i := 0) (x := 56) (nx := 25) (r1 := 0) (r2 := 0) (r3 := 0) rfl rfl ?_
    refine wr_gr (k0 := 56) (x := 18) (nx := 28) (r1 := 6) (r2 := 1) (r3 := 0) rfl rfl (by decide) rfl ⟨rfl, rfl⟩ rfl ?_
    refine wr_gr (k0 := 18) (x := 21) (nx := 31) (r1 := 4) (r2 := 3) (r3 := 0) rfl rfl (by decide) rfl ⟨rfl, rfl⟩ rfl ?_
    refine wi_iload_n (i := 2) (e := x2) (nx := 32) (r1 := 0) (r2 := 0) (r3 := 0) rfl rfl ?_
    refine wr_aa (k0 := 21) (a := x2) (f := i6) (x := 21 + 8 + 2 * i6) (nx := 33) (r1 := 0) (r2 := 0) (r3 := 0) rfl (by decide) rfl (Or.inl rfl) (by omega) (by omega) (by decide) (hcr.1 21 (by decide) i6 (by omega)) ?_
    obtain ⟨k13, kk13, mk13⟩ : ∃ q, Rw q ∧ q = 21 + 8 + 2 * i6 := ⟨_, rw_lane 21 (by decide) i6 (by omega), rfl⟩
    rw [← mk13]
    have b14 := gi_b (lo := 0) (hi := 12) g k13 1 kk13.2.2.2.1
    refine wr_gi0 (k0 := k13) (x := h k13 1) (nx := 36) (r1 := 5) (r2 := 1) (r3 := 0) rfl rfl kk13.k kk13.1 ⟨rfl, rfl⟩ rfl ((u10 k13 1 (fn_a (by omega) fn_0)).trans ((u7 k13 1 (fn_a (by omega) fn_0)).trans (u3 k13 1 (fn_a (by omega) (fn_a (by omega) fn_0))))) ?_
    refine wi_iconst (n := 1) (nx := 37) (r1 := 0) (r2 := 0) (r3 := 0) rfl ?_
    refine wr_add (nx := 38) (r1 := 0) (r2 := 0) (r3 := 0) rfl (fun e15 (fe15 : e15 = (h k13 1) + 1) => ?_)
    refine wr_mulW (nx := 39) (r1 := 0) (r2 := 0) (r3 := 0) rfl (fun e16 (fe16 : -2147483648 ≤ e16 ∧ e16 ≤ 2147483647) => ?_)
    refine wi_istore_n (i := 1) (e := e16) (lo2 := [(1, vi e16), (0, .ref 56), (2, vi x2)]) (nx := 40) (r1 := 0) (r2 := 0) (r3 := 0) rfl rfl ?_
    refine wr_iinc (i := 2) (n := 1) (v := x2) (fun e17 => [(2, vi e17), (1, vi e16), (0, .ref 56)]) (nx := 43) (r1 := 0) (r2 := 0) (r3 := 0) rfl rfl (fun _ => rfl) (fun e17 (fe17 : e17 = x2 + 1) => ?_)
    refine wi_goto (nx := 46) (r1 := 4) (r2 := 0) (r3 := 0) rfl ?_
    refine wp.lo (lo := [(0, .ref 56), (1, vi e16), (2, vi e17)]) ⟨rfl, rfl, rfl, trivial⟩ rfl ?_
    exact I3 e16 e17 h10 ⟨g10, F11, F12, (show (-2147483648 ≤ e16 ∧ e16 ≤ 2147483647) ∧ (0 ≤ e17 ∧ e17 ≤ 4) by omega)⟩ (show ((4 : Int) + 1 - e17).toNat < ((4 : Int) + 1 - x2).toNat by omega)
-- method 104: Unloading.forgetWorths(I)V
set_option maxRecDepth 100000 in
set_option maxHeartbeats 100000000 in
theorem ct_104_56 {L : Nat} {xs : Nat → Int32} {d b c : Nat} {h : hp} {cr : Nat → Nat → Option Nat} {Q : hp_Q} (hcr : CR cr)  (g : GI h) (a0 : Int) (q0_ : -2147483648 ≤ a0 ∧ a0 ≤ 2147483647)  (k : ∀ (h2 : hp) , GI h2 → FR [(57, 57, none)] h h2 → Q (.inl none) (hp_w h2 cr) b c) : wp (md_xa (L, xs)) (d + 1) 104 (0, [(0, .ref 56), (1, vi a0)], [], hp_w h cr, b, c) Q := by
  have F0 : FR [(57, 57, none)] h h := FR.refl
  refine wi_iload_n (i := 1) (e := a0) (nx := 1) (r1 := 0) (r2 := 0) (r3 := 0) rfl rfl ?_
  refine wi_iconst (n := 5) (nx := 2) (r1 := 0) (r2 := 0) (r3 := 0) rfl ?_
  refine wr_mulW (nx := 3) (r1 := 0) (r2 := 0) (r3 := 0) rfl (fun e1 (fe1 : -2147483648 ≤ e1 ∧ e1 ≤ 2147483647) => ?_)
  refine wi_bipush (n := 9) (nx := 5) (r1 := 0) (r2 := 0) (r3 := 0) rfl (by decide) ?_
  refine wr_mulW (nx := 6) (r1 := 0) (r2 := 0) (r3 := 0) rfl (fun e2 (fe2 : -2147483648 ≤ e2 ∧ e2 ≤ 2147483647) => ?_)
  refine wi_aload_n (i := 0) (x := 56) (nx := 7) (r1 := 0) (r2 := 0) (r3 := 0) rfl rfl ?_
  refine wr_gr (k0 := 56) (x := 57) (nx := 10) (r1 := 6) (r2 := 2) (r3 := 0) rfl rfl (by decide) rfl ⟨rfl, rfl⟩ rfl ?_
  refine wr_al (k0 := 57) (e := 11520) (nx := 11) (r1 := 0) (r2 := 0) (r3 := 0) rfl (by decide) rfl rfl ?_
  refine wi_S (rest := []) (as := [vi e2, vi 11520]) (nx := 14) (r1 := 133) (r2 := 18) (r3 := 0) rfl rfl rfl (of_decide_eq_true rfl) rfl rfl (of_decide_eq_true rfl) (of_decide_eq_true rfl) ?_
  refine wi_iload_n (i := 0) (e := e2) (nx := 1) (r1 := 0) (r2 := 0) (r3 := 0) rfl rfl ?_
  refine wi_iload_n (i := 1) (e := 11520) (nx := 2) (r1 := 0) (r2 := 0) (r3 := 0) rfl rfl ?_
  refine wi_icmp (cd := .gt) (nx := 5) (r1 := 9) (r2 := 0) (r3 := 0) rfl (by omega) (by omega) (fun (q3 : 11520 < e2) => ?_) (fun (q3 : ¬ (11520 < e2)) => ?_)
  ·
    refine wi_iload_n (i := 1) (e := 11520) (nx := 10) (r1 := 0) (r2 := 0) (r3 := 0) rfl rfl ?_
    refine wi_ireturn (nx := 11) (r1 := 0) (r2 := 0) (r3 := 0) rfl rfl ?_
    refine wk_i ?_
    refine wi_istore_n (i := 2) (e := 11520) (lo2 := [(2, vi 11520), (0, .ref 56), (1, vi a0)]) (nx := 15) (r1 := 0) (r2 := 0) (r3 := 0) rfl rfl ?_
    refine wi_iconst (n := 0) (nx := 16) (r1 := 0) (r2 := 0) (r3 := 0) rfl ?_
    refine wi_istore_n (i := 3) (e := 0) (lo2 := [(3, vi 0), (2, vi 11520), (0, .ref 56), (1, vi a0)]) (nx := 17) (r1 := 0) (r2 := 0) (r3 := 0) rfl rfl ?_
    refine wp.lo (lo := [(0, .ref 56), (2, vi 11520), (3, vi 0)]) ⟨rfl, rfl, rfl, trivial⟩ rfl ?_
    refine wl_1 (fun x4 h5 => GI h5 ∧ FR [(57, 57, none)] h h5 ∧ FR [(57, 57, none)] h h5 ∧ ((0 ≤ x4 ∧ x4 ≤ 11520))) (fun x4 h5 => ((11520 : Int) + 1 - x4).toNat) (fun x4 h5 => (17, [(0, .ref 56), (2, vi 11520), (3, vi x4)], [], hp_w h5 cr, b, c)) ?_ 0 h ⟨g, F0, FR.refl, (show (0 ≤ 0 ∧ 0 ≤ 11520) by omega)⟩
    intro x4 h5 ⟨g5, F6, u5, f5⟩ I5
    refine wi_iload_n (i := 3) (e := x4) (nx := 18) (r1 := 0) (r2 := 0) (r3 := 0) rfl rfl ?_
    refine wi_iload_n (i := 2) (e := 11520) (nx := 19) (r1 := 0) (r2 := 0) (r3 := 0) rfl rfl ?_
    refine wi_icmp (cd := .ge) (nx := 22) (r1 := 35) (r2 := 0) (r3 := 0) rfl (by omega) (by omega) (fun (q7 : 11520 ≤ x4) => ?_) (fun (q7 : ¬ (11520 ≤ x4)) => ?_)
    ·
      refine wi_return (nx := 36) (r1 := 0) (r2 := 0) (r3 := 0) rfl rfl ?_
      exact k h5 g5 F6
    ·
      refine wi_aload_n (i := 0) (x := 56) (nx := 23) (r1 := 0) (r2 := 0) (r3 := 0) rfl rfl ?_
      refine wr_gr (k0 := 56) (x := 57) (nx := 26) (r1 := 6) (r2 := 2) (r3 := 0) rfl rfl (by decide) rfl ⟨rfl, rfl⟩ rfl ?_
      refine wi_iload_n (i := 3) (e := x4) (nx := 27) (r1 := 0) (r2 := 0) (r3 := 0) rfl rfl ?_
      refine wi_iconst (n := (-1)) (nx := 28) (r1 := 0) (r2 := 0) (r3 := 0) rfl ?_
      obtain ⟨i8, ei8⟩ : ∃ q : Nat, x4 = (q : Int) := ⟨(x4).toNat, by omega⟩
      refine wr_is (k0 := 57) (a := x4) (f := i8) (x := -1) (bl := -2147483648) (bh := 2147483647) (nx := 29) (r1 := 0) (r2 := 0) (r3 := 0) rfl (by decide) rfl (by omega) (by omega) (by decide) g5 rfl (by omega) (fun h9 g9 w9 u9 => ?_)
      have F10 := F6.then rfl (FR.rngp (lo := 57) (hi := 57) u9 (by decide))
      have F11 := u5.then rfl (FR.rngp (lo := 57) (hi := 57) u9 (by decide))
      refine wr_iinc (i := 3) (n := 1) (v := x4) (fun e12 => [(3, vi e12), (0, .ref 56), (2, vi 11520)]) (nx := 32) (r1 := 0) (r2 := 0) (r3 := 0) rfl rfl (fun _ => rfl) (fun e12 (fe12 : e12 = x4 + 1) => ?_)
      refine wi_goto (nx := 35) (r1 := 17) (r2 := 0) (r3 := 0) rfl ?_
      refine wp.lo (lo := [(0, .ref 56), (2, vi 11520), (3, vi e12)]) ⟨rfl, rfl, rfl, trivial⟩ rfl ?_
      exact I5 e12 h9 ⟨g9, F10, F11, (show (0 ≤ e12 ∧ e12 ≤ 11520) by omega)⟩ (show ((11520 : Int) + 1 - e12).toNat < ((11520 : Int) + 1 - x4).toNat by omega)
  ·
    refine wi_iload_n (i := 0) (e := e2) (nx := 6) (r1 := 0) (r2 := 0) (r3 := 0) rfl rfl ?_
    refine wi_goto (nx := 9) (r1 := 10) (r2 := 0) (r3 := 0) rfl ?_
    refine wi_ireturn (nx := 11) (r1 := 0) (r2 := 0) (r3 := 0) rfl rfl ?_
    refine wk_i ?_
    refine wi_istore_n (i := 2) (e := e2) (lo2 := [(2, vi e2), (0, .ref 56), (1, vi a0)]) (nx := 15) (r1 := 0) (r2 := 0) (r3 := 0) rfl rfl ?_
    refine wi_iconst (n := 0) (nx := 16) (r1 := 0) (r2 := 0) (r3 := 0) rfl ?_
    refine wi_istore_n (i := 3) (e := 0) (lo2 := [(3, vi 0), (2, vi e2), (0, .ref 56), (1, vi a0)]) (nx := 17) (r1 := 0) (r2 := 0) (r3 := 0) rfl rfl ?_
    refine wp.lo (lo := [(0, .ref 56), (2, vi e2), (3, vi 0)]) ⟨rfl, rfl, rfl, trivial⟩ rfl ?_
    refine wl_1 (fun x4 h5 => GI h5 ∧ FR [(57, 57, none)] h h5 ∧ FR [(57, 57, none)] h h5 ∧ ((0 ≤ x4 ∧ x4 ≤ 11520))) (fun x4 h5 => ((11520 : Int) + 1 - x4).toNat) (fun x4 h5 => (17, [(0, .ref 56), (2, vi e2), (3, vi x4)], [], hp_w h5 cr, b, c)) ?_ 0 h ⟨g, F0, FR.refl, (show (0 ≤ 0 ∧ 0 ≤ 11520) by omega)⟩
    intro x4 h5 ⟨g5, F6, u5, f5⟩ I5
    refine wi_iload_n (i := 3) (e := x4) (nx := 18) (r1 := 0) (r2 := 0) (r3 := 0) rfl rfl ?_
    refine wi_iload_n (i := 2) (e := e2) (nx := 19) (r1 := 0) (r2 := 0) (r3 := 0) rfl rfl ?_
    refine wi_icmp (cd := .ge) (nx := 22) (r1 := 35) (r2 := 0) (r3 := 0) rfl (by omega) (by omega) (fun (q7 : e2 ≤ x4) => ?_) (fun (q7 : ¬ (e2 ≤ x4)) => ?_)
    ·
      refine wi_return (nx := 36) (r1 := 0) (r2 := 0) (r3 := 0) rfl rfl ?_
      exact k h5 g5 F6
    ·
      refine wi_aload_n (i := 0) (x := 56) (nx := 23) (r1 := 0) (r2 := 0) (r3 := 0) rfl rfl ?_
      refine wr_gr (k0 := 56) (x := 57) (nx := 26) (r1 := 6) (r2 := 2) (r3 := 0) rfl rfl (by decide) rfl ⟨rfl, rfl⟩ rfl ?_
      refine wi_iload_n (i := 3) (e := x4) (nx := 27) (r1 := 0) (r2 := 0) (r3 := 0) rfl rfl ?_
      refine wi_iconst (n := (-1)) (nx := 28) (r1 := 0) (r2 := 0) (r3 := 0) rfl ?_
      obtain ⟨i8, ei8⟩ : ∃ q : Nat, x4 = (q : Int) := ⟨(x4).toNat, by omega⟩
      refine wr_is (k0 := 57) (a := x4) (f := i8) (x := -1) (bl := -2147483648) (bh := 2147483647) (nx := 29) (r1 := 0) (r2 := 0) (r3 := 0) rfl (by decide) rfl (by omega) (by omega) (by decide) g5 rfl (by omega) (fun h9 g9 w9 u9 => ?_)
      have F10 := F6.then rfl (FR.rngp (lo := 57) (hi := 57) u9 (by decide))
      have F11 := u5.then rfl (FR.rngp (lo := 57) (hi := 57) u9 (by decide))
      refine wr_iinc (i := 3) (n := 1) (v := x4) (fun e12 => [(3, vi e12), (0, .ref 56), (2, vi e2)]) (nx := 32) (r1 := 0) (r2 := 0) (r3 := 0) rfl rfl (fun _ => rfl) (fun e12 (fe12 : e12 = x4 + 1) => ?_)
      refine wi_goto (nx := 35) (r1 := 17) (r2 := 0) (r3 := 0) rfl ?_
      refine wp.lo (lo := [(0, .ref 56), (2, vi e2), (3, vi e12)]) ⟨rfl, rfl, rfl, trivial⟩ rfl ?_
      exact I5 e12 h9 ⟨g9, F10, F11, (show (0 ≤ e12 ∧ e12 ≤ 11520) by omega)⟩ (show ((11520 : Int) + 1 - e12).toNat < ((11520 : Int) + 1 - x4).toNat by omega)
-- method 106: Unloading.keyOf(III)I
set_option maxRecDepth 100000 in
set_option maxHeartbeats 100000000 in
theorem ct_106_56 {L : Nat} {xs : Nat → Int32} {d b c : Nat} {h : hp} {cr : Nat → Nat → Option Nat} {Q : hp_Q} (hcr : CR cr)  (g : GI h) (a0 : Int) (a1 : Int) (a2 : Int) (q0_ : -2147483648 ≤ a0 ∧ a0 ≤ 2147483647) (q1_ : -2147483648 ≤ a1 ∧ a1 ≤ 2147483647) (q2_ : -2147483648 ≤ a2 ∧ a2 ≤ 2147483647)  (k : ∀ (z0 : Int), (0 ≤ z0 ∧ z0 ≤ 11519) → Q (.inl (some (vi z0))) (hp_w h cr) b c) : wp (md_xa (L, xs)) (d + 1) 106 (0, [(0, .ref 56), (1, vi a0), (2, vi a1), (3, vi a2)], [], hp_w h cr, b, c) Q := by
  have F0 : FR [] h h := FR.refl
  refine wi_iload_n (i := 1) (e := a0) (nx := 1) (r1 := 0) (r2 := 0) (r3 := 0) rfl rfl ?_
  refine wi_if (cd := .ne) (nx := 4) (r1 := 8) (r2 := 0) (r3 := 0) rfl (by omega) (fun (q1 : a0 ≠ 0) => ?_) (fun (q1 : ¬ (a0 ≠ 0)) => ?_)
  ·
    refine wi_iload_n (i := 1) (e := a0) (nx := 9) (r1 := 0) (r2 := 0) (r3 := 0) rfl rfl ?_
    refine wi_iconst (n := 5) (nx := 10) (r1 := 0) (r2 := 0) (r3 := 0) rfl ?_
    refine wr_mulW (nx := 11) (r1 := 0) (r2 := 0) (r3 := 0) rfl (fun e2 (fe2 : -2147483648 ≤ e2 ∧ e2 ≤ 2147483647) => ?_)
    refine wi_iload_n (i := 2) (e := a1) (nx := 12) (r1 := 0) (r2 := 0) (r3 := 0) rfl rfl ?_
    refine wr_addW (nx := 13) (r1 := 0) (r2 := 0) (r3 := 0) rfl (fun e3 (fe3 : -2147483648 ≤ e3 ∧ e3 ≤ 2147483647) => ?_)
    refine wi_bipush (n := 9) (nx := 15) (r1 := 0) (r2 := 0) (r3 := 0) rfl (by decide) ?_
    refine wr_mulW (nx := 16) (r1 := 0) (r2 := 0) (r3 := 0) rfl (fun e4 (fe4 : -2147483648 ≤ e4 ∧ e4 ≤ 2147483647) => ?_)
    refine wi_iload_n (i := 3) (e := a2) (nx := 17) (r1 := 0) (r2 := 0) (r3 := 0) rfl rfl ?_
    refine wr_addW (nx := 18) (r1 := 0) (r2 := 0) (r3 := 0) rfl (fun e5 (fe5 : -2147483648 ≤ e5 ∧ e5 ≤ 2147483647) => ?_)
    refine wi_iconst (n := 1) (nx := 19) (r1 := 0) (r2 := 0) (r3 := 0) rfl ?_
    refine wr_subW (nx := 20) (r1 := 0) (r2 := 0) (r3 := 0) rfl (fun e6 (fe6 : -2147483648 ≤ e6 ∧ e6 ≤ 2147483647) => ?_)
    refine wi_istore (i := 4) (e := e6) (lo2 := [(4, vi e6), (0, .ref 56), (1, vi a0), (2, vi a1), (3, vi a2)]) (nx := 22) (r1 := 0) (r2 := 0) (r3 := 0) rfl rfl ?_
    refine wi_iload (i := 4) (e := e6) (nx := 24) (r1 := 0) (r2 := 0) (r3 := 0) rfl rfl ?_
    refine wi_iconst (n := 0) (nx := 25) (r1 := 0) (r2 := 0) (r3 := 0) rfl ?_
    refine wi_S (rest := []) (as := [vi e6, vi 0]) (nx := 28) (r1 := 132) (r2 := 18) (r3 := 0) rfl rfl rfl (of_decide_eq_true rfl) rfl rfl (of_decide_eq_true rfl) (of_decide_eq_true rfl) ?_
    refine wi_iload_n (i := 0) (e := e6) (nx := 1) (r1 := 0) (r2 := 0) (r3 := 0) rfl rfl ?_
    refine wi_iload_n (i := 1) (e := 0) (nx := 2) (r1 := 0) (r2 := 0) (r3 := 0) rfl rfl ?_
    refine wi_icmp (cd := .lt) (nx := 5) (r1 := 9) (r2 := 0) (r3 := 0) rfl (by omega) (by omega) (fun (q7 : e6 < 0) => ?_) (fun (q7 : ¬ (e6 < 0)) => ?_)
    ·
      refine wi_iload_n (i := 1) (e := 0) (nx := 10) (r1 := 0) (r2 := 0) (r3 := 0) rfl rfl ?_
      refine wi_ireturn (nx := 11) (r1 := 0) (r2 := 0) (r3 := 0) rfl rfl ?_
      refine wk_i ?_
      refine wi_aload_n (i := 0) (x := 56) (nx := 29) (r1 := 0) (r2 := 0) (r3 := 0) rfl rfl ?_
      refine wr_gr (k0 := 56) (x := 57) (nx := 32) (r1 := 6) (r2 := 2) (r3 := 0) rfl rfl (by decide) rfl ⟨rfl, rfl⟩ rfl ?_
      refine wr_al (k0 := 57) (e := 11520) (nx := 33) (r1 := 0) (r2 := 0) (r3 := 0) rfl (by decide) rfl rfl ?_
      refine wi_iconst (n := 1) (nx := 34) (r1 := 0) (r2 := 0) (r3 := 0) rfl ?_
      refine wr_subL (11519) (nx := 35) (r1 := 0) (r2 := 0) (r3 := 0) rfl (by decide) ?_
      refine wi_S (rest := []) (as := [vi 0, vi 11519]) (nx := 38) (r1 := 133) (r2 := 18) (r3 := 0) rfl rfl rfl (of_decide_eq_true rfl) rfl rfl (of_decide_eq_true rfl) (of_decide_eq_true rfl) ?_
      refine wi_iload_n (i := 0) (e := 0) (nx := 1) (r1 := 0) (r2 := 0) (r3 := 0) rfl rfl ?_
      refine wi_iload_n (i := 1) (e := 11519) (nx := 2) (r1 := 0) (r2 := 0) (r3 := 0) rfl rfl ?_
      refine wi_icmp (cd := .gt) (nx := 5) (r1 := 9) (r2 := 0) (r3 := 0) rfl (by omega) (by omega) (fun (q8 : 11519 < 0) => by exfalso; omega) (fun (q8 : ¬ (11519 < 0)) => ?_)
      refine wi_iload_n (i := 0) (e := 0) (nx := 6) (r1 := 0) (r2 := 0) (r3 := 0) rfl rfl ?_
      refine wi_goto (nx := 9) (r1 := 10) (r2 := 0) (r3 := 0) rfl ?_
      refine wi_ireturn (nx := 11) (r1 := 0) (r2 := 0) (r3 := 0) rfl rfl ?_
      refine wk_i ?_
      refine wi_ireturn (nx := 39) (r1 := 0) (r2 := 0) (r3 := 0) rfl rfl ?_
      exact k 0 (by omega)
    ·
      refine wi_iload_n (i := 0) (e := e6) (nx := 6) (r1 := 0) (r2 := 0) (r3 := 0) rfl rfl ?_
      refine wi_goto (nx := 9) (r1 := 10) (r2 := 0) (r3 := 0) rfl ?_
      refine wi_ireturn (nx := 11) (r1 := 0) (r2 := 0) (r3 := 0) rfl rfl ?_
      refine wk_i ?_
      refine wi_aload_n (i := 0) (x := 56) (nx := 29) (r1 := 0) (r2 := 0) (r3 := 0) rfl rfl ?_
      refine wr_gr (k0 := 56) (x := 57) (nx := 32) (r1 := 6) (r2 := 2) (r3 := 0) rfl rfl (by decide) rfl ⟨rfl, rfl⟩ rfl ?_
      refine wr_al (k0 := 57) (e := 11520) (nx := 33) (r1 := 0) (r2 := 0) (r3 := 0) rfl (by decide) rfl rfl ?_
      refine wi_iconst (n := 1) (nx := 34) (r1 := 0) (r2 := 0) (r3 := 0) rfl ?_
      refine wr_subL (11519) (nx := 35) (r1 := 0) (r2 := 0) (r3 := 0) rfl (by decide) ?_
      refine wi_S (rest := []) (as := [vi e6, vi 11519]) (nx := 38) (r1 := 133) (r2 := 18) (r3 := 0) rfl rfl rfl (of_decide_eq_true rfl) rfl rfl (of_decide_eq_true rfl) (of_decide_eq_true rfl) ?_
      refine wi_iload_n (i := 0) (e := e6) (nx := 1) (r1 := 0) (r2 := 0) (r3 := 0) rfl rfl ?_
      refine wi_iload_n (i := 1) (e := 11519) (nx := 2) (r1 := 0) (r2 := 0) (r3 := 0) rfl rfl ?_
      refine wi_icmp (cd := .gt) (nx := 5) (r1 := 9) (r2 := 0) (r3 := 0) rfl (by omega) (by omega) (fun (q8 : 11519 < e6) => ?_) (fun (q8 : ¬ (11519 < e6)) => ?_)
      ·
        refine wi_iload_n (i := 1) (e := 11519) (nx := 10) (r1 := 0) (r2 := 0) (r3 := 0) rfl rfl ?_
        refine wi_ireturn (nx := 11) (r1 := 0) (r2 := 0) (r3 := 0) rfl rfl ?_
        refine wk_i ?_
        refine wi_ireturn (nx := 39) (r1 := 0) (r2 := 0) (r3 := 0) rfl rfl ?_
        exact k 11519 (by omega)
      ·
        refine wi_iload_n (i := 0) (e := e6) (nx := 6) (r1 := 0) (r2 := 0) (r3 := 0) rfl rfl ?_
        refine wi_goto (nx := 9) (r1 := 10) (r2 := 0) (r3 := 0) rfl ?_
        refine wi_ireturn (nx := 11) (r1 := 0) (r2 := 0) (r3 := 0) rfl rfl ?_
        refine wk_i ?_
        refine wi_ireturn (nx := 39) (r1 := 0) (r2 := 0) (r3 := 0) rfl rfl ?_
        exact k e6 (by omega)
  ·
    refine wi_iconst (n := 0) (nx := 5) (r1 := 0) (r2 := 0) (r3 := 0) rfl ?_
    refine wi_goto (nx := 8) (r1 := 20) (r2 := 0) (r3 := 0) rfl ?_
    refine wi_istore (i := 4) (e := 0) (lo2 := [(4, vi 0), (0, .ref 56), (1, vi a0), (2, vi a1), (3, vi a2)]) (nx := 22) (r1 := 0) (r2 := 0) (r3 := 0) rfl rfl ?_
    refine wi_iload (i := 4) (e := 0) (nx := 24) (r1 := 0) (r2 := 0) (r3 := 0) rfl rfl ?_
    refine wi_iconst (n := 0) (nx := 25) (r1 := 0) (r2 := 0) (r3 := 0) rfl ?_
    refine wi_S (rest := []) (as := [vi 0, vi 0]) (nx := 28) (r1 := 132) (r2 := 18) (r3 := 0) rfl rfl rfl (of_decide_eq_true rfl) rfl rfl (of_decide_eq_true rfl) (of_decide_eq_true rfl) ?_
    refine wi_iload_n (i := 0) (e := 0) (nx := 1) (r1 := 0) (r2 := 0) (r3 := 0) rfl rfl ?_
    refine wi_iload_n (i := 1) (e := 0) (nx := 2) (r1 := 0) (r2 := 0) (r3 := 0) rfl rfl ?_
    refine wi_icmp (cd := .lt) (nx := 5) (r1 := 9) (r2 := 0) (r3 := 0) rfl (by omega) (by omega) (fun (q2 : 0 < 0) => by exfalso; omega) (fun (q2 : ¬ (0 < 0)) => ?_)
    refine wi_iload_n (i := 0) (e := 0) (nx := 6) (r1 := 0) (r2 := 0) (r3 := 0) rfl rfl ?_
    refine wi_goto (nx := 9) (r1 := 10) (r2 := 0) (r3 := 0) rfl ?_
    refine wi_ireturn (nx := 11) (r1 := 0) (r2 := 0) (r3 := 0) rfl rfl ?_
    refine wk_i ?_
    refine wi_aload_n (i := 0) (x := 56) (nx := 29) (r1 := 0) (r2 := 0) (r3 := 0) rfl rfl ?_
    refine wr_gr (k0 := 56) (x := 57) (nx := 32) (r1 := 6) (r2 := 2) (r3 := 0) rfl rfl (by decide) rfl ⟨rfl, rfl⟩ rfl ?_
    refine wr_al (k0 := 57) (e := 11520) (nx := 33) (r1 := 0) (r2 := 0) (r3 := 0) rfl (by decide) rfl rfl ?_
    refine wi_iconst (n := 1) (nx := 34) (r1 := 0) (r2 := 0) (r3 := 0) rfl ?_
    refine wr_subL (11519) (nx := 35) (r1 := 0) (r2 := 0) (r3 := 0) rfl (by decide) ?_
    refine wi_S (rest := []) (as := [vi 0, vi 11519]) (nx := 38) (r1 := 133) (r2 := 18) (r3 := 0) rfl rfl rfl (of_decide_eq_true rfl) rfl rfl (of_decide_eq_true rfl) (of_decide_eq_true rfl) ?_
    refine wi_iload_n (i := 0) (e := 0) (nx := 1) (r1 := 0) (r2 := 0) (r3 := 0) rfl rfl ?_
    refine wi_iload_n (i := 1) (e := 11519) (nx := 2) (r1 := 0) (r2 := 0) (r3 := 0) rfl rfl ?_
    refine wi_icmp (cd := .gt) (nx := 5) (r1 := 9) (r2 := 0) (r3 := 0) rfl (by omega) (by omega) (fun (q3 : 11519 < 0) => by exfalso; omega) (fun (q3 : ¬ (11519 < 0)) => ?_)
    refine wi_iload_n (i := 0) (e := 0) (nx := 6) (r1 := 0) (r2 := 0) (r3 := 0) rfl rfl ?_
    refine wi_goto (nx := 9) (r1 := 10) (r2 := 0) (r3 := 0) rfl ?_
    refine wi_ireturn (nx := 11) (r1 := 0) (r2 := 0) (r3 := 0) rfl rfl ?_
    refine wk_i ?_
    refine wi_ireturn (nx := 39) (r1 := 0) (r2 := 0) (r3 := 0) rfl rfl ?_
    exact k 0 (by omega)
-- method 108: Unloading.fitsOut(II)Z
set_option maxRecDepth 100000 in
set_option maxHeartbeats 100000000 in
theorem ct_108_56 {L : Nat} {xs : Nat → Int32} {d b c : Nat} {h : hp} {cr : Nat → Nat → Option Nat} {Q : hp_Q} (hcr : CR cr)  (g : GI h) (a0 : Int) (a1 : Int) (q0_ : -2147483648 ≤ a0 ∧ a0 ≤ 2147483647) (q1_ : -2147483648 ≤ a1 ∧ a1 ≤ 2147483647)  (k : ∀ (z0 : Int), (0 ≤ z0 ∧ z0 ≤ 1) → Q (.inl (some (vi z0))) (hp_w h cr) b c) : wp (md_xa (L, xs)) d 108 (0, [(0, .ref 56), (1, vi a0), (2, vi a1)], [], hp_w h cr, b, c) Q := by
  have F0 : FR [] h h := FR.refl
  refine wi_iload_n (i := 2) (e := a1) (nx := 1) (r1 := 0) (r2 := 0) (r3 := 0) rfl rfl ?_
  refine wi_iload_n (i := 1) (e := a0) (nx := 2) (r1 := 0) (r2 := 0) (r3 := 0) rfl rfl ?_
  refine wi_aload_n (i := 0) (x := 56) (nx := 3) (r1 := 0) (r2 := 0) (r3 := 0) rfl rfl ?_
  refine wr_gr (k0 := 56) (x := 3) (nx := 6) (r1 := 6) (r2 := 0) (r3 := 0) rfl rfl (by decide) rfl ⟨rfl, rfl⟩ rfl ?_
  have b1 := gi_b (lo := -2147483648) (hi := 2147483647) g 3 3 rfl
  refine wr_gi0 (k0 := 3) (x := h 3 3) (nx := 9) (r1 := 2) (r2 := 3) (r3 := 0) rfl rfl (by decide) rfl ⟨rfl, rfl⟩ rfl rfl ?_
  refine wr_subW (nx := 10) (r1 := 0) (r2 := 0) (r3 := 0) rfl (fun e2 (fe2 : -2147483648 ≤ e2 ∧ e2 ≤ 2147483647) => ?_)
  refine wi_icmp (cd := .lt) (nx := 13) (r1 := 30) (r2 := 0) (r3 := 0) rfl (by omega) (by omega) (fun (q3 : a1 < e2) => ?_) (fun (q3 : ¬ (a1 < e2)) => ?_)
  ·
    refine wi_iconst (n := 0) (nx := 31) (r1 := 0) (r2 := 0) (r3 := 0) rfl ?_
    refine wi_zreturn (nx := 32) (r1 := 0) (r2 := 0) (r3 := 0) rfl rfl (by omega) ?_
    exact k 0 (by omega)
  ·
    refine wi_iload_n (i := 2) (e := a1) (nx := 14) (r1 := 0) (r2 := 0) (r3 := 0) rfl rfl ?_
    refine wi_iload_n (i := 1) (e := a0) (nx := 15) (r1 := 0) (r2 := 0) (r3 := 0) rfl rfl ?_
    refine wi_aload_n (i := 0) (x := 56) (nx := 16) (r1 := 0) (r2 := 0) (r3 := 0) rfl rfl ?_
    refine wr_gr (k0 := 56) (x := 3) (nx := 19) (r1 := 6) (r2 := 0) (r3 := 0) rfl rfl (by decide) rfl ⟨rfl, rfl⟩ rfl ?_
    have b4 := gi_b (lo := -2147483648) (hi := 2147483647) g 3 4 rfl
    refine wr_gi0 (k0 := 3) (x := h 3 4) (nx := 22) (r1 := 2) (r2 := 4) (r3 := 0) rfl rfl (by decide) rfl ⟨rfl, rfl⟩ rfl rfl ?_
    refine wr_addW (nx := 23) (r1 := 0) (r2 := 0) (r3 := 0) rfl (fun e5 (fe5 : -2147483648 ≤ e5 ∧ e5 ≤ 2147483647) => ?_)
    refine wi_icmp (cd := .gt) (nx := 26) (r1 := 30) (r2 := 0) (r3 := 0) rfl (by omega) (by omega) (fun (q6 : e5 < a1) => ?_) (fun (q6 : ¬ (e5 < a1)) => ?_)
    ·
      refine wi_iconst (n := 0) (nx := 31) (r1 := 0) (r2 := 0) (r3 := 0) rfl ?_
      refine wi_zreturn (nx := 32) (r1 := 0) (r2 := 0) (r3 := 0) rfl rfl (by omega) ?_
      exact k 0 (by omega)
    ·
      refine wi_iconst (n := 1) (nx := 27) (r1 := 0) (r2 := 0) (r3 := 0) rfl ?_
      refine wi_goto (nx := 30) (r1 := 31) (r2 := 0) (r3 := 0) rfl ?_
      refine wi_zreturn (nx := 32) (r1 := 0) (r2 := 0) (r3 := 0) rfl rfl (by omega) ?_
      exact k 1 (by omega)
-- method 105: Unloading.worthOfRest(IIII)I
set_option maxRecDepth 100000 in
set_option maxHeartbeats 100000000 in
theorem cr_105_56 {L : Nat} {xs : Nat → Int32} {b c : Nat} {cr : Nat → Nat → Option Nat} (hcr : CR cr) (n : Nat) : ∀ {d : Nat} {h : hp} {Q : hp_Q} (g : GI h) (a0 : Int) (a1 : Int) (a2 : Int) (a3 : Int) (q0_ : 0 ≤ a0 ∧ a0 ≤ 48) (q1_ : -2147483648 ≤ a1 ∧ a1 ≤ 2147483647) (q2_ : -2147483648 ≤ a2 ∧ a2 ≤ 2147483647) (q3_ : -2147483648 ≤ a3 ∧ a3 ≤ 2147483647)  (hn : 48 - a0 ≤ n) (k : ∀ (h2 : hp) (z0 : Int) , GI h2 → FR [(57, 57, none), (58, 58, none), (59, 59, none)] h h2 → (-2147483648 ≤ z0 ∧ z0 ≤ 2147483647) → Q (.inl (some (vi z0))) (hp_w h2 cr) b c), wp (md_xa (L, xs)) (d + 2 * n + 5) 105 (0, [(0, .ref 56), (1, vi a0), (2, vi a1), (3, vi a2), (4, vi a3)], [], hp_w h cr, b, c) Q := by
  induction n using Nat.strongRecOn with
  | _ n IH =>
  intro d h Q g a0 a1 a2 a3 q0_ q1_ q2_ q3_  hn k
  have F0 : FR [(57, 57, none), (58, 58, none), (59, 59, none)] h h := FR.refl
  refine wi_iload_n (i := 1) (e := a0) (nx := 1) (r1 := 0) (r2 := 0) (r3 := 0) rfl rfl ?_
  refine wi_aload_n (i := 0) (x := 56) (nx := 2) (r1 := 0) (r2 := 0) (r3 := 0) rfl rfl ?_
  have b1 := gi_b (lo := 0) (hi := 48) g 56 6 rfl
  refine wr_gi0 (k0 := 56) (x := h 56 6) (nx := 5) (r1 := 6) (r2 := 6) (r3 := 0) rfl rfl (by decide) rfl ⟨rfl, rfl⟩ rfl rfl ?_
  refine wi_icmp (cd := .lt) (nx := 8) (r1 := 10) (r2 := 0) (r3 := 0) rfl (by omega) (by omega) (fun (q2 : a0 < (h 56 6)) => ?_) (fun (q2 : ¬ (a0 < (h 56 6))) => ?_)
  ·
    refine wi_aload_n (i := 0) (x := 56) (nx := 11) (r1 := 0) (r2 := 0) (r3 := 0) rfl rfl ?_
    refine wi_iload_n (i := 2) (e := a1) (nx := 12) (r1 := 0) (r2 := 0) (r3 := 0) rfl rfl ?_
    refine wi_iload_n (i := 3) (e := a2) (nx := 13) (r1 := 0) (r2 := 0) (r3 := 0) rfl rfl ?_
    refine wi_iload (i := 4) (e := a3) (nx := 15) (r1 := 0) (r2 := 0) (r3 := 0) rfl rfl ?_
    refine wr_V (k0 := 56) (rest := []) (as := [.ref 56, vi a1, vi a2, vi a3]) (nx := 18) (r1 := 106) (r2 := 3) (r3 := 6) rfl rfl rfl (of_decide_eq_true rfl) rfl rfl (by decide) rfl rfl (of_decide_eq_true rfl) (of_decide_eq_true rfl) ?_
    refine ct_106_56 hcr  g a1 a2 a3 (by omega) (by omega) (by omega)  (fun z4  (fz4 : 0 ≤ z4 ∧ z4 ≤ 11519) => ?_)
    refine wk_i ?_
    refine wi_istore (i := 5) (e := z4) (lo2 := [(5, vi z4), (0, .ref 56), (1, vi a0), (2, vi a1), (3, vi a2), (4, vi a3)]) (nx := 20) (r1 := 0) (r2 := 0) (r3 := 0) rfl rfl ?_
    refine wi_aload_n (i := 0) (x := 56) (nx := 21) (r1 := 0) (r2 := 0) (r3 := 0) rfl rfl ?_
    refine wr_gr (k0 := 56) (x := 57) (nx := 24) (r1 := 6) (r2 := 2) (r3 := 0) rfl rfl (by decide) rfl ⟨rfl, rfl⟩ rfl ?_
    refine wi_iload (i := 5) (e := z4) (nx := 26) (r1 := 0) (r2 := 0) (r3 := 0) rfl rfl ?_
    obtain ⟨i5, ei5⟩ : ∃ q : Nat, z4 = (q : Int) := ⟨(z4).toNat, by omega⟩
    have b6 := gi_b (lo := -2147483648) (hi := 2147483647) g 57 i5 rfl
    refine wr_ia (k0 := 57) (a := z4) (f := i5) (x := h 57 i5) (nx := 27) (r1 := 0) (r2 := 0) (r3 := 0) rfl (by decide) rfl (by omega) (by omega) (by decide) rfl ?_
    refine wi_iconst (n := (-1)) (nx := 28) (r1 := 0) (r2 := 0) (r3 := 0) rfl ?_
    refine wi_icmp (cd := .eq) (nx := 31) (r1 := 39) (r2 := 0) (r3 := 0) rfl (by omega) (by omega) (fun (q7 : (h 57 i5) = (-1)) => ?_) (fun (q7 : ¬ ((h 57 i5) = (-1))) => ?_)
    ·
      refine wi_ldc (e := 1048576) (nx := 41) (r1 := 0) (r2 := 1048576) (r3 := 0) rfl rfl (by decide) ?_
      refine wi_istore (i := 6) (e := 1048576) (lo2 := [(6, vi 1048576), (5, vi z4), (0, .ref 56), (1, vi a0), (2, vi a1), (3, vi a2), (4, vi a3)]) (nx := 43) (r1 := 0) (r2 := 0) (r3 := 0) rfl rfl ?_
      refine wi_iconst (n := 0) (nx := 44) (r1 := 0) (r2 := 0) (r3 := 0) rfl ?_
      refine wi_istore (i := 7) (e := 0) (lo2 := [(7, vi 0), (6, vi 1048576), (5, vi z4), (0, .ref 56), (1, vi a0), (2, vi a1), (3, vi a2), (4, vi a3)]) (nx := 46) (r1 := 0) (r2 := 0) (r3 := 0) rfl rfl ?_
      refine wp.lo (lo := [(0, .ref 56), (1, vi a0), (2, vi a1), (3, vi a2), (4, vi a3), (5, vi z4), (6, vi 1048576), (7, vi 0)]) ⟨rfl, rfl, rfl, rfl, rfl, rfl, rfl, rfl, trivial⟩ rfl ?_
      refine wl_2 (fun x8 x9 h10 => GI h10 ∧ FR [(57, 57, none), (58, 58, none), (59, 59, none)] h h10 ∧ FR [(57, 57, none), (58, 58, none), (59, 59, none)] h h10 ∧ ((-2147483648 ≤ x8 ∧ x8 ≤ 1048576) ∧ (0 ≤ x9 ∧ x9 ≤ 4))) (fun x8 x9 h10 => ((4 : Int) + 1 - x9).toNat) (fun x8 x9 h10 => (46, [(0, .ref 56), (1, vi a0), (2, vi a1), (3, vi a2), (4, vi a3), (5, vi z4), (6, vi x8), (7, vi x9)], [], hp_w h10 cr, b, c)) ?_ 1048576 0 h ⟨g, F0, FR.refl, (show (-2147483648 ≤ 1048576 ∧ 1048576 ≤ 1048576) ∧ (0 ≤ 0 ∧ 0 ≤ 4) by omega)⟩
      intro x8 x9 h10 ⟨g10, F11, u10, f10⟩ I10
      refine wi_iload (i := 7) (e := x9) (nx := 48) (r1 := 0) (r2 := 0) (r3 := 0) rfl rfl ?_
      refine wi_aload_n (i := 0) (x := 56) (nx := 49) (r1 := 0) (r2 := 0) (r3 := 0) rfl rfl ?_
      refine wr_gr (k0 := 56) (x := 3) (nx := 52) (r1 := 6) (r2 := 0) (r3 := 0) rfl rfl (by decide) rfl ⟨rfl, rfl⟩ rfl ?_
      have b12 := gi_b (lo := 0) (hi := 4) g 3 1 rfl
      refine wr_gi0 (k0 := 3) (x := h 3 1) (nx := 55) (r1 := 2) (r2 := 1) (r3 := 0) rfl rfl (by decide) rfl ⟨rfl, rfl⟩ rfl (u10 3 1 rfl) ?_
      refine wi_icmp (cd := .ge) (nx := 58) (r1 := 98) (r2 := 0) (r3 := 0) rfl (by omega) (by omega) (fun (q13 : (h 3 1) ≤ x9) => ?_) (fun (q13 : ¬ ((h 3 1) ≤ x9)) => ?_)
      ·
        refine wi_aload_n (i := 0) (x := 56) (nx := 99) (r1 := 0) (r2 := 0) (r3 := 0) rfl rfl ?_
        refine wr_gr (k0 := 56) (x := 57) (nx := 102) (r1 := 6) (r2 := 2) (r3 := 0) rfl rfl (by decide) rfl ⟨rfl, rfl⟩ rfl ?_
        refine wi_iload (i := 5) (e := z4) (nx := 104) (r1 := 0) (r2 := 0) (r3 := 0) rfl rfl ?_
        refine wi_iload (i := 6) (e := x8) (nx := 106) (r1 := 0) (r2 := 0) (r3 := 0) rfl rfl ?_
        refine wr_is (k0 := 57) (a := z4) (f := i5) (x := x8) (bl := -2147483648) (bh := 2147483647) (nx := 107) (r1 := 0) (r2 := 0) (r3 := 0) rfl (by decide) rfl (by omega) (by omega) (by decide) g10 rfl (by omega) (fun h14 g14 w14 u14 => ?_)
        have F15 := F11.then rfl (FR.rngp (lo := 57) (hi := 57) u14 (by decide))
        refine wi_iload (i := 6) (e := x8) (nx := 109) (r1 := 0) (r2 := 0) (r3 := 0) rfl rfl ?_
        refine wi_ireturn (nx := 110) (r1 := 0) (r2 := 0) (r3 := 0) rfl rfl ?_
        exact k h14 x8 g14 F15 (by omega)
      ·
        refine wi_aload_n (i := 0) (x := 56) (nx := 59) (r1 := 0) (r2 := 0) (r3 := 0) rfl rfl ?_
        refine wi_iload (i := 7) (e := x9) (nx := 61) (r1 := 0) (r2 := 0) (r3 := 0) rfl rfl ?_
        refine wi_iload_n (i := 1) (e := a0) (nx := 62) (r1 := 0) (r2 := 0) (r3 := 0) rfl rfl ?_
        refine wi_iload_n (i := 2) (e := a1) (nx := 63) (r1 := 0) (r2 := 0) (r3 := 0) rfl rfl ?_
        refine wi_iload_n (i := 3) (e := a2) (nx := 64) (r1 := 0) (r2 := 0) (r3 := 0) rfl rfl ?_
        refine wi_iload (i := 4) (e := a3) (nx := 66) (r1 := 0) (r2 := 0) (r3 := 0) rfl rfl ?_
        refine wr_V (k0 := 56) (rest := []) (as := [.ref 56, vi x9, vi a0, vi a1, vi a2, vi a3]) (nx := 69) (r1 := 107) (r2 := 5) (r3 := 6) rfl rfl rfl (of_decide_eq_true rfl) rfl rfl (by decide) rfl rfl (of_decide_eq_true rfl) (of_decide_eq_true rfl) ?_
        refine wi_aload_n (i := 0) (x := 56) (nx := 1) (r1 := 0) (r2 := 0) (r3 := 0) rfl rfl ?_
        refine wr_gr (k0 := 56) (x := 18) (nx := 4) (r1 := 6) (r2 := 1) (r3 := 0) rfl rfl (by decide) rfl ⟨rfl, rfl⟩ rfl ?_
        refine wr_gr (k0 := 18) (x := 21) (nx := 7) (r1 := 4) (r2 := 3) (r3 := 0) rfl rfl (by decide) rfl ⟨rfl, rfl⟩ rfl ?_
        refine wi_iload_n (i := 1) (e := x9) (nx := 8) (r1 := 0) (r2 := 0) (r3 := 0) rfl rfl ?_
        obtain ⟨i14, ei14⟩ : ∃ q : Nat, x9 = (q : Int) := ⟨(x9).toNat, by omega⟩
        refine wr_aa (k0 := 21) (a := x9) (f := i14) (x := 21 + 8 + 2 * i14) (nx := 9) (r1 := 0) (r2 := 0) (r3 := 0) rfl (by decide) rfl (Or.inl rfl) (by omega) (by omega) (by decide) (hcr.1 21 (by decide) i14 (by omega)) ?_
        obtain ⟨k15, kk15, mk15⟩ : ∃ q, Rw q ∧ q = 21 + 8 + 2 * i14 := ⟨_, rw_lane 21 (by decide) i14 (by omega), rfl⟩
        rw [← mk15]
        refine wi_aload_n (i := 0) (x := 56) (nx := 10) (r1 := 0) (r2 := 0) (r3 := 0) rfl rfl ?_
        refine wr_gr (k0 := 56) (x := 59) (nx := 13) (r1 := 6) (r2 := 4) (r3 := 0) rfl rfl (by decide) rfl ⟨rfl, rfl⟩ rfl ?_
        refine wi_iload_n (i := 1) (e := x9) (nx := 14) (r1 := 0) (r2 := 0) (r3 := 0) rfl rfl ?_
        have b16 := gi_b (lo := -2147483648) (hi := 2147483647) g10 59 i14 rfl
        refine wr_ia (k0 := 59) (a := x9) (f := i14) (x := h10 59 i14) (nx := 15) (r1 := 0) (r2 := 0) (r3 := 0) rfl (by decide) rfl (by omega) (by omega) (by decide) rfl ?_
        refine wr_V (k0 := k15) (rest := []) (as := [.ref k15, vi (h10 59 i14)]) (nx := 18) (r1 := 95) (r2 := 1) (r3 := 5) rfl rfl rfl (of_decide_eq_true rfl) rfl rfl kk15.k kk15.1 rfl (of_decide_eq_true rfl) (of_decide_eq_true rfl) ?_
        refine ct_95_R hcr kk15 g10 (h10 59 i14) (by omega)  (fun z18  (fz18 : -2147483648 ≤ z18 ∧ z18 ≤ 2147483647) => ?_)
        refine wk_i ?_
        refine wi_istore (i := 6) (e := z18) (lo2 := [(6, vi z18), (0, .ref 56), (1, vi x9), (2, vi a0), (3, vi a1), (4, vi a2), (5, vi a3)]) (nx := 20) (r1 := 0) (r2 := 0) (r3 := 0) rfl rfl ?_
        refine wi_iload (i := 6) (e := z18) (nx := 22) (r1 := 0) (r2 := 0) (r3 := 0) rfl rfl ?_
        refine wi_if (cd := .lt) (nx := 25) (r1 := 53) (r2 := 0) (r3 := 0) rfl (by omega) (fun (q19 : z18 < 0) => ?_) (fun (q19 : ¬ (z18 < 0)) => ?_)
        ·
          refine wi_ldc (e := 1048576) (nx := 55) (r1 := 0) (r2 := 1048576) (r3 := 0) rfl rfl (by decide) ?_
          refine wi_ireturn (nx := 56) (r1 := 0) (r2 := 0) (r3 := 0) rfl rfl ?_
          refine wk_i ?_
          refine wi_istore (i := 8) (e := 1048576) (lo2 := [(8, vi 1048576), (0, .ref 56), (1, vi a0), (2, vi a1), (3, vi a2), (4, vi a3), (5, vi z4), (6, vi x8), (7, vi x9)]) (nx := 71) (r1 := 0) (r2 := 0) (r3 := 0) rfl rfl ?_
          refine wi_iload (i := 8) (e := 1048576) (nx := 73) (r1 := 0) (r2 := 0) (r3 := 0) rfl rfl ?_
          refine wi_iload (i := 6) (e := x8) (nx := 75) (r1 := 0) (r2 := 0) (r3 := 0) rfl rfl ?_
          refine wi_icmp (cd := .ge) (nx := 78) (r1 := 92) (r2 := 0) (r3 := 0) rfl (by omega) (by omega) (fun (q20 : x8 ≤ 1048576) => ?_) (fun (q20 : ¬ (x8 ≤ 1048576)) => by exfalso; omega)
          refine wr_iinc (i := 7) (n := 1) (v := x9) (fun e21 => [(7, vi e21), (8, vi 1048576), (0, .ref 56), (1, vi a0), (2, vi a1), (3, vi a2), (4, vi a3), (5, vi z4), (6, vi x8)]) (nx := 95) (r1 := 0) (r2 := 0) (r3 := 0) rfl rfl (fun _ => rfl) (fun e21 (fe21 : e21 = x9 + 1) => ?_)
          refine wi_goto (nx := 98) (r1 := 46) (r2 := 0) (r3 := 0) rfl ?_
          refine wp.lo (lo := [(0, .ref 56), (1, vi a0), (2, vi a1), (3, vi a2), (4, vi a3), (5, vi z4), (6, vi x8), (7, vi e21)]) ⟨rfl, rfl, rfl, rfl, rfl, rfl, rfl, rfl, trivial⟩ rfl ?_
          exact I10 x8 e21 h10 ⟨g10, F11, u10, (show (-2147483648 ≤ x8 ∧ x8 ≤ 1048576) ∧ (0 ≤ e21 ∧ e21 ≤ 4) by omega)⟩ (show ((4 : Int) + 1 - e21).toNat < ((4 : Int) + 1 - x9).toNat by omega)
        ·
          refine wi_iload (i := 6) (e := z18) (nx := 27) (r1 := 0) (r2 := 0) (r3 := 0) rfl rfl ?_
          refine wi_bipush (n := 12) (nx := 29) (r1 := 0) (r2 := 0) (r3 := 0) rfl (by decide) ?_
          refine wi_icmp (cd := .ge) (nx := 32) (r1 := 53) (r2 := 0) (r3 := 0) rfl (by omega) (by omega) (fun (q20 : 12 ≤ z18) => ?_) (fun (q20 : ¬ (12 ≤ z18)) => ?_)
          ·
            refine wi_ldc (e := 1048576) (nx := 55) (r1 := 0) (r2 := 1048576) (r3 := 0) rfl rfl (by decide) ?_
            refine wi_ireturn (nx := 56) (r1 := 0) (r2 := 0) (r3 := 0) rfl rfl ?_
            refine wk_i ?_
            refine wi_istore (i := 8) (e := 1048576) (lo2 := [(8, vi 1048576), (0, .ref 56), (1, vi a0), (2, vi a1), (3, vi a2), (4, vi a3), (5, vi z4), (6, vi x8), (7, vi x9)]) (nx := 71) (r1 := 0) (r2 := 0) (r3 := 0) rfl rfl ?_
            refine wi_iload (i := 8) (e := 1048576) (nx := 73) (r1 := 0) (r2 := 0) (r3 := 0) rfl rfl ?_
            refine wi_iload (i := 6) (e := x8) (nx := 75) (r1 := 0) (r2 := 0) (r3 := 0) rfl rfl ?_
            refine wi_icmp (cd := .ge) (nx := 78) (r1 := 92) (r2 := 0) (r3 := 0) rfl (by omega) (by omega) (fun (q21 : x8 ≤ 1048576) => ?_) (fun (q21 : ¬ (x8 ≤ 1048576)) => by exfalso; omega)
            refine wr_iinc (i := 7) (n := 1) (v := x9) (fun e22 => [(7, vi e22), (8, vi 1048576), (0, .ref 56), (1, vi a0), (2, vi a1), (3, vi a2), (4, vi a3), (5, vi z4), (6, vi x8)]) (nx := 95) (r1 := 0) (r2 := 0) (r3 := 0) rfl rfl (fun _ => rfl) (fun e22 (fe22 : e22 = x9 + 1) => ?_)
            refine wi_goto (nx := 98) (r1 := 46) (r2 := 0) (r3 := 0) rfl ?_
            refine wp.lo (lo := [(0, .ref 56), (1, vi a0), (2, vi a1), (3, vi a2), (4, vi a3), (5, vi z4), (6, vi x8), (7, vi e22)]) ⟨rfl, rfl, rfl, rfl, rfl, rfl, rfl, rfl, trivial⟩ rfl ?_
            exact I10 x8 e22 h10 ⟨g10, F11, u10, (show (-2147483648 ≤ x8 ∧ x8 ≤ 1048576) ∧ (0 ≤ e22 ∧ e22 ≤ 4) by omega)⟩ (show ((4 : Int) + 1 - e22).toNat < ((4 : Int) + 1 - x9).toNat by omega)
          ·
            refine wi_aload_n (i := 0) (x := 56) (nx := 33) (r1 := 0) (r2 := 0) (r3 := 0) rfl rfl ?_
            refine wi_iload (i := 6) (e := z18) (nx := 35) (r1 := 0) (r2 := 0) (r3 := 0) rfl rfl ?_
            refine wi_aload_n (i := 0) (x := 56) (nx := 36) (r1 := 0) (r2 := 0) (r3 := 0) rfl rfl ?_
            refine wr_gr (k0 := 56) (x := 18) (nx := 39) (r1 := 6) (r2 := 1) (r3 := 0) rfl rfl (by decide) rfl ⟨rfl, rfl⟩ rfl ?_
            refine wr_gr (k0 := 18) (x := 26) (nx := 42) (r1 := 4) (r2 := 6) (r3 := 0) rfl rfl (by decide) rfl ⟨rfl, rfl⟩ rfl ?_
            have b21 := gi_b (lo := 0) (hi := 12) g 26 1 rfl
            refine wr_gi0 (k0 := 26) (x := h 26 1) (nx := 45) (r1 := 5) (r2 := 1) (r3 := 0) rfl rfl (by decide) rfl ⟨rfl, rfl⟩ rfl (u10 26 1 rfl) ?_
            refine wi_iload_n (i := 2) (e := a0) (nx := 46) (r1 := 0) (r2 := 0) (r3 := 0) rfl rfl ?_
            refine wr_add (nx := 47) (r1 := 0) (r2 := 0) (r3 := 0) rfl (fun e22 (fe22 : e22 = (h 26 1) + a0) => ?_)
            refine wr_V (k0 := 56) (rest := []) (as := [.ref 56, vi z18, vi e22]) (nx := 50) (r1 := 108) (r2 := 2) (r3 := 6) rfl rfl rfl (of_decide_eq_true rfl) rfl rfl (by decide) rfl rfl (of_decide_eq_true rfl) (of_decide_eq_true rfl) ?_
            refine ct_108_56 hcr  g10 z18 e22 (by omega) (by omega)  (fun z24  (fz24 : 0 ≤ z24 ∧ z24 ≤ 1) => ?_)
            refine wk_i ?_
            refine wi_if (cd := .ne) (nx := 53) (r1 := 56) (r2 := 0) (r3 := 0) rfl (by omega) (fun (q25 : z24 ≠ 0) => ?_) (fun (q25 : ¬ (z24 ≠ 0)) => ?_)
            ·
              refine wi_aload_n (i := 0) (x := 56) (nx := 57) (r1 := 0) (r2 := 0) (r3 := 0) rfl rfl ?_
              refine wr_gr (k0 := 56) (x := 18) (nx := 60) (r1 := 6) (r2 := 1) (r3 := 0) rfl rfl (by decide) rfl ⟨rfl, rfl⟩ rfl ?_
              refine wr_gr (k0 := 18) (x := 19) (nx := 63) (r1 := 4) (r2 := 1) (r3 := 0) rfl rfl (by decide) rfl ⟨rfl, rfl⟩ rfl ?_
              refine wi_iload (i := 6) (e := z18) (nx := 65) (r1 := 0) (r2 := 0) (r3 := 0) rfl rfl ?_
              obtain ⟨i26, ei26⟩ : ∃ q : Nat, z18 = (q : Int) := ⟨(z18).toNat, by omega⟩
              have b27 := gi_b (lo := -2147483648) (hi := 2147483647) g 19 i26 rfl
              refine wr_ia (k0 := 19) (a := z18) (f := i26) (x := h 19 i26) (nx := 66) (r1 := 0) (r2 := 0) (r3 := 0) rfl (by decide) rfl (by omega) (by omega) (by decide) (u10 19 i26 (fn_a (by omega) (fn_a (by omega) (fn_a (by omega) fn_0)))) ?_
              refine wi_istore (i := 7) (e := h 19 i26) (lo2 := [(7, vi (h 19 i26)), (6, vi z18), (0, .ref 56), (1, vi x9), (2, vi a0), (3, vi a1), (4, vi a2), (5, vi a3)]) (nx := 68) (r1 := 0) (r2 := 0) (r3 := 0) rfl rfl ?_
              refine wi_aload_n (i := 0) (x := 56) (nx := 69) (r1 := 0) (r2 := 0) (r3 := 0) rfl rfl ?_
              refine wr_gr (k0 := 56) (x := 3) (nx := 72) (r1 := 6) (r2 := 0) (r3 := 0) rfl rfl (by decide) rfl ⟨rfl, rfl⟩ rfl ?_
              refine wi_iload (i := 4) (e := a2) (nx := 74) (r1 := 0) (r2 := 0) (r3 := 0) rfl rfl ?_
              refine wi_iload (i := 5) (e := a3) (nx := 76) (r1 := 0) (r2 := 0) (r3 := 0) rfl rfl ?_
              refine wi_iload (i := 7) (e := h 19 i26) (nx := 78) (r1 := 0) (r2 := 0) (r3 := 0) rfl rfl ?_
              refine wr_V (k0 := 3) (rest := []) (as := [.ref 3, vi a2, vi a3, vi (h 19 i26)]) (nx := 81) (r1 := 57) (r2 := 3) (r3 := 2) rfl rfl rfl (of_decide_eq_true rfl) rfl rfl (by decide) rfl rfl (of_decide_eq_true rfl) (of_decide_eq_true rfl) ?_
              refine wi_iload_n (i := 1) (e := a2) (nx := 1) (r1 := 0) (r2 := 0) (r3 := 0) rfl rfl ?_
              refine wi_iconst (n := (-1)) (nx := 2) (r1 := 0) (r2 := 0) (r3 := 0) rfl ?_
              refine wi_icmp (cd := .ne) (nx := 5) (r1 := 7) (r2 := 0) (r3 := 0) rfl (by omega) (by omega) (fun (q28 : a2 ≠ (-1)) => ?_) (fun (q28 : ¬ (a2 ≠ (-1))) => ?_)
              ·
                refine wi_iload_n (i := 1) (e := a2) (nx := 8) (r1 := 0) (r2 := 0) (r3 := 0) rfl rfl ?_
                refine wi_iload_n (i := 3) (e := h 19 i26) (nx := 9) (r1 := 0) (r2 := 0) (r3 := 0) rfl rfl ?_
                refine wi_icmp (cd := .eq) (nx := 12) (r1 := 14) (r2 := 0) (r3 := 0) rfl (by omega) (by omega) (fun (q29 : a2 = (h 19 i26)) => ?_) (fun (q29 : ¬ (a2 = (h 19 i26))) => ?_)
                ·
                  refine wi_iload_n (i := 2) (e := a3) (nx := 15) (r1 := 0) (r2 := 0) (r3 := 0) rfl rfl ?_
                  refine wi_aload_n (i := 0) (x := 3) (nx := 16) (r1 := 0) (r2 := 0) (r3 := 0) rfl rfl ?_
                  have b30 := gi_b (lo := -2147483648) (hi := 2147483647) g 3 5 rfl
                  refine wr_gi0 (k0 := 3) (x := h 3 5) (nx := 19) (r1 := 2) (r2 := 5) (r3 := 0) rfl rfl (by decide) rfl ⟨rfl, rfl⟩ rfl (u10 3 5 rfl) ?_
                  refine wi_icmp (cd := .lt) (nx := 22) (r1 := 26) (r2 := 0) (r3 := 0) rfl (by omega) (by omega) (fun (q31 : a3 < (h 3 5)) => ?_) (fun (q31 : ¬ (a3 < (h 3 5))) => ?_)
                  ·
                    refine wi_iconst (n := 0) (nx := 27) (r1 := 0) (r2 := 0) (r3 := 0) rfl ?_
                    refine wi_ireturn (nx := 28) (r1 := 0) (r2 := 0) (r3 := 0) rfl rfl ?_
                    refine wk_i ?_
                    refine wi_istore (i := 8) (e := 0) (lo2 := [(8, vi 0), (7, vi (h 19 i26)), (6, vi z18), (0, .ref 56), (1, vi x9), (2, vi a0), (3, vi a1), (4, vi a2), (5, vi a3)]) (nx := 83) (r1 := 0) (r2 := 0) (r3 := 0) rfl rfl ?_
                    refine wi_aload_n (i := 0) (x := 56) (nx := 84) (r1 := 0) (r2 := 0) (r3 := 0) rfl rfl ?_
                    refine wr_gr (k0 := 56) (x := 3) (nx := 87) (r1 := 6) (r2 := 0) (r3 := 0) rfl rfl (by decide) rfl ⟨rfl, rfl⟩ rfl ?_
                    refine wi_iload (i := 8) (e := 0) (nx := 89) (r1 := 0) (r2 := 0) (r3 := 0) rfl rfl ?_
                    refine wi_iload (i := 7) (e := h 19 i26) (nx := 91) (r1 := 0) (r2 := 0) (r3 := 0) rfl rfl ?_
                    refine wr_V (k0 := 3) (rest := []) (as := [.ref 3, vi 0, vi (h 19 i26)]) (nx := 94) (r1 := 58) (r2 := 2) (r3 := 2) rfl rfl rfl (of_decide_eq_true rfl) rfl rfl (by decide) rfl rfl (of_decide_eq_true rfl) (of_decide_eq_true rfl) ?_
                    refine ct_58_3 hcr  g10 0 (h 19 i26) (by omega) (by omega)  (fun z33  (fz33 : -2147483648 ≤ z33 ∧ z33 ≤ 2147483647) => ?_)
                    refine wk_i ?_
                    refine wi_bipush (n := 16) (nx := 96) (r1 := 0) (r2 := 0) (r3 := 0) rfl (by decide) ?_
                    refine wr_mulW (nx := 97) (r1 := 0) (r2 := 0) (r3 := 0) rfl (fun e34 (fe34 : -2147483648 ≤ e34 ∧ e34 ≤ 2147483647) => ?_)
                    refine wi_iload (i := 8) (e := 0) (nx := 99) (r1 := 0) (r2 := 0) (r3 := 0) rfl rfl ?_
                    refine wi_iconst (n := 1) (nx := 100) (r1 := 0) (r2 := 0) (r3 := 0) rfl ?_
                    refine wi_icmp (cd := .ne) (nx := 103) (r1 := 107) (r2 := 0) (r3 := 0) rfl (by omega) (by omega) (fun (q35 : 0 ≠ 1) => ?_) (fun (q35 : ¬ (0 ≠ 1)) => by exfalso; omega)
                    refine wi_iconst (n := 0) (nx := 108) (r1 := 0) (r2 := 0) (r3 := 0) rfl ?_
                    refine wr_add (nx := 109) (r1 := 0) (r2 := 0) (r3 := 0) rfl (fun e36 (fe36 : e36 = e34 + 0) => ?_)
                    refine wi_istore (i := 9) (e := e36) (lo2 := [(9, vi e36), (8, vi 0), (7, vi (h 19 i26)), (6, vi z18), (0, .ref 56), (1, vi x9), (2, vi a0), (3, vi a1), (4, vi a2), (5, vi a3)]) (nx := 111) (r1 := 0) (r2 := 0) (r3 := 0) rfl rfl ?_
                    refine wi_iload_n (i := 3) (e := a1) (nx := 112) (r1 := 0) (r2 := 0) (r3 := 0) rfl rfl ?_
                    refine wi_aload_n (i := 0) (x := 56) (nx := 113) (r1 := 0) (r2 := 0) (r3 := 0) rfl rfl ?_
                    refine wr_gr (k0 := 56) (x := 60) (nx := 116) (r1 := 6) (r2 := 5) (r3 := 0) rfl rfl (by decide) rfl ⟨rfl, rfl⟩ rfl ?_
                    refine wi_iload_n (i := 1) (e := x9) (nx := 117) (r1 := 0) (r2 := 0) (r3 := 0) rfl rfl ?_
                    have b37 := gi_b (lo := -2147483648) (hi := 2147483647) g 60 i14 rfl
                    refine wr_ia (k0 := 60) (a := x9) (f := i14) (x := h 60 i14) (nx := 118) (r1 := 0) (r2 := 0) (r3 := 0) rfl (by decide) rfl (by omega) (by omega) (by decide) (u10 60 i14 (fn_a (by omega) (fn_a (by omega) (fn_a (by omega) fn_0)))) ?_
                    refine wr_addW (nx := 119) (r1 := 0) (r2 := 0) (r3 := 0) rfl (fun e38 (fe38 : -2147483648 ≤ e38 ∧ e38 ≤ 2147483647) => ?_)
                    refine wi_istore (i := 10) (e := e38) (lo2 := [(10, vi e38), (9, vi e36), (8, vi 0), (7, vi (h 19 i26)), (6, vi z18), (0, .ref 56), (1, vi x9), (2, vi a0), (3, vi a1), (4, vi a2), (5, vi a3)]) (nx := 121) (r1 := 0) (r2 := 0) (r3 := 0) rfl rfl ?_
                    refine wi_aload_n (i := 0) (x := 56) (nx := 122) (r1 := 0) (r2 := 0) (r3 := 0) rfl rfl ?_
                    refine wr_gr (k0 := 56) (x := 59) (nx := 125) (r1 := 6) (r2 := 4) (r3 := 0) rfl rfl (by decide) rfl ⟨rfl, rfl⟩ rfl ?_
                    refine wi_iload_n (i := 1) (e := x9) (nx := 126) (r1 := 0) (r2 := 0) (r3 := 0) rfl rfl ?_
                    refine wi_dup2 (nx := 127) (r1 := 0) (r2 := 0) (r3 := 0) rfl rfl rfl ?_
                    refine wr_ia (k0 := 59) (a := x9) (f := i14) (x := h10 59 i14) (nx := 128) (r1 := 0) (r2 := 0) (r3 := 0) rfl (by decide) rfl (by omega) (by omega) (by decide) rfl ?_
                    refine wi_iconst (n := 1) (nx := 129) (r1 := 0) (r2 := 0) (r3 := 0) rfl ?_
                    refine wr_addW (nx := 130) (r1 := 0) (r2 := 0) (r3 := 0) rfl (fun e39 (fe39 : -2147483648 ≤ e39 ∧ e39 ≤ 2147483647) => ?_)
                    refine wr_is (k0 := 59) (a := x9) (f := i14) (x := e39) (bl := -2147483648) (bh := 2147483647) (nx := 131) (r1 := 0) (r2 := 0) (r3 := 0) rfl (by decide) rfl (by omega) (by omega) (by decide) g10 rfl (by omega) (fun h40 g40 w40 u40 => ?_)
                    have F41 := F11.then rfl (FR.rngp (lo := 59) (hi := 59) u40 (by decide))
                    have F42 := u10.then rfl (FR.rngp (lo := 59) (hi := 59) u40 (by decide))
                    refine wi_iload (i := 9) (e := e36) (nx := 133) (r1 := 0) (r2 := 0) (r3 := 0) rfl rfl ?_
                    refine wi_aload_n (i := 0) (x := 56) (nx := 134) (r1 := 0) (r2 := 0) (r3 := 0) rfl rfl ?_
                    refine wi_iload_n (i := 2) (e := a0) (nx := 135) (r1 := 0) (r2 := 0) (r3 := 0) rfl rfl ?_
                    refine wi_iconst (n := 1) (nx := 136) (r1 := 0) (r2 := 0) (r3 := 0) rfl ?_
                    refine wr_add (nx := 137) (r1 := 0) (r2 := 0) (r3 := 0) rfl (fun e43 (fe43 : e43 = a0 + 1) => ?_)
                    refine wi_iload (i := 10) (e := e38) (nx := 139) (r1 := 0) (r2 := 0) (r3 := 0) rfl rfl ?_
                    refine wi_iload (i := 7) (e := h 19 i26) (nx := 141) (r1 := 0) (r2 := 0) (r3 := 0) rfl rfl ?_
                    refine wi_iload (i := 8) (e := 0) (nx := 143) (r1 := 0) (r2 := 0) (r3 := 0) rfl rfl ?_
                    refine wi_iload (i := 5) (e := a3) (nx := 145) (r1 := 0) (r2 := 0) (r3 := 0) rfl rfl ?_
                    refine wi_S (rest := [vi (h 19 i26), vi e38, vi e43, .ref 56, vi e36]) (as := [vi 0, vi a3]) (nx := 148) (r1 := 59) (r2 := 18) (r3 := 0) rfl rfl rfl (of_decide_eq_true rfl) rfl rfl (of_decide_eq_true rfl) (of_decide_eq_true rfl) ?_
                    refine wi_iload_n (i := 0) (e := 0) (nx := 1) (r1 := 0) (r2 := 0) (r3 := 0) rfl rfl ?_
                    refine wi_if (cd := .ne) (nx := 4) (r1 := 10) (r2 := 0) (r3 := 0) rfl (by omega) (fun (q44 : 0 ≠ 0) => by exfalso; omega) (fun (q44 : ¬ (0 ≠ 0)) => ?_)
                    refine wi_iload_n (i := 1) (e := a3) (nx := 5) (r1 := 0) (r2 := 0) (r3 := 0) rfl rfl ?_
                    refine wi_iconst (n := 1) (nx := 6) (r1 := 0) (r2 := 0) (r3 := 0) rfl ?_
                    refine wr_add (nx := 7) (r1 := 0) (r2 := 0) (r3 := 0) rfl (fun e45 (fe45 : e45 = a3 + 1) => ?_)
                    refine wi_goto (nx := 10) (r1 := 11) (r2 := 0) (r3 := 0) rfl ?_
                    refine wi_ireturn (nx := 12) (r1 := 0) (r2 := 0) (r3 := 0) rfl rfl ?_
                    refine wk_i ?_
                    refine wr_V (k0 := 56) (rest := [vi e36]) (as := [.ref 56, vi e43, vi e38, vi (h 19 i26), vi e45]) (nx := 151) (r1 := 105) (r2 := 4) (r3 := 6) rfl rfl rfl (of_decide_eq_true rfl) rfl rfl (by decide) rfl rfl (of_decide_eq_true rfl) (of_decide_eq_true rfl) ?_
                    refine wp_eq (e := d + 2 * (n - 1) + 5) (by omega) ?_
                    refine IH (n - 1) (by omega) g40 e43 e38 (h 19 i26) e45 (by omega) (by omega) (by omega) (by omega)  (by omega) (fun h46 z47 g46 u46 (fz47 : -2147483648 ≤ z47 ∧ z47 ≤ 2147483647) => ?_)
                    have F48 := F41.then (by decide +kernel) u46
                    have F49 := F42.then (by decide +kernel) u46
                    refine wk_i ?_
                    refine wr_addW (nx := 152) (r1 := 0) (r2 := 0) (r3 := 0) rfl (fun e50 (fe50 : -2147483648 ≤ e50 ∧ e50 ≤ 2147483647) => ?_)
                    refine wi_istore (i := 9) (e := e50) (lo2 := [(9, vi e50), (10, vi e38), (8, vi 0), (7, vi (h 19 i26)), (6, vi z18), (0, .ref 56), (1, vi x9), (2, vi a0), (3, vi a1), (4, vi a2), (5, vi a3)]) (nx := 154) (r1 := 0) (r2 := 0) (r3 := 0) rfl rfl ?_
                    refine wi_aload_n (i := 0) (x := 56) (nx := 155) (r1 := 0) (r2 := 0) (r3 := 0) rfl rfl ?_
                    refine wr_gr (k0 := 56) (x := 59) (nx := 158) (r1 := 6) (r2 := 4) (r3 := 0) rfl rfl (by decide) rfl ⟨rfl, rfl⟩ rfl ?_
                    refine wi_iload_n (i := 1) (e := x9) (nx := 159) (r1 := 0) (r2 := 0) (r3 := 0) rfl rfl ?_
                    refine wi_dup2 (nx := 160) (r1 := 0) (r2 := 0) (r3 := 0) rfl rfl rfl ?_
                    have b51 := gi_b (lo := -2147483648) (hi := 2147483647) g46 59 i14 rfl
                    refine wr_ia (k0 := 59) (a := x9) (f := i14) (x := h46 59 i14) (nx := 161) (r1 := 0) (r2 := 0) (r3 := 0) rfl (by decide) rfl (by omega) (by omega) (by decide) rfl ?_
                    refine wi_iconst (n := 1) (nx := 162) (r1 := 0) (r2 := 0) (r3 := 0) rfl ?_
                    refine wr_subW (nx := 163) (r1 := 0) (r2 := 0) (r3 := 0) rfl (fun e52 (fe52 : -2147483648 ≤ e52 ∧ e52 ≤ 2147483647) => ?_)
                    refine wr_is (k0 := 59) (a := x9) (f := i14) (x := e52) (bl := -2147483648) (bh := 2147483647) (nx := 164) (r1 := 0) (r2 := 0) (r3 := 0) rfl (by decide) rfl (by omega) (by omega) (by decide) g46 rfl (by omega) (fun h53 g53 w53 u53 => ?_)
                    have F54 := F48.then rfl (FR.rngp (lo := 59) (hi := 59) u53 (by decide))
                    have F55 := F49.then rfl (FR.rngp (lo := 59) (hi := 59) u53 (by decide))
                    refine wi_iload (i := 9) (e := e50) (nx := 166) (r1 := 0) (r2 := 0) (r3 := 0) rfl rfl ?_
                    refine wi_ldc (e := 1048576) (nx := 168) (r1 := 0) (r2 := 1048576) (r3 := 0) rfl rfl (by decide) ?_
                    refine wi_S (rest := []) (as := [vi e50, vi 1048576]) (nx := 171) (r1 := 133) (r2 := 18) (r3 := 0) rfl rfl rfl (of_decide_eq_true rfl) rfl rfl (of_decide_eq_true rfl) (of_decide_eq_true rfl) ?_
                    refine wi_iload_n (i := 0) (e := e50) (nx := 1) (r1 := 0) (r2 := 0) (r3 := 0) rfl rfl ?_
                    refine wi_iload_n (i := 1) (e := 1048576) (nx := 2) (r1 := 0) (r2 := 0) (r3 := 0) rfl rfl ?_
                    refine wi_icmp (cd := .gt) (nx := 5) (r1 := 9) (r2 := 0) (r3 := 0) rfl (by omega) (by omega) (fun (q56 : 1048576 < e50) => ?_) (fun (q56 : ¬ (1048576 < e50)) => ?_)
                    ·
                      refine wi_iload_n (i := 1) (e := 1048576) (nx := 10) (r1 := 0) (r2 := 0) (r3 := 0) rfl rfl ?_
                      refine wi_ireturn (nx := 11) (r1 := 0) (r2 := 0) (r3 := 0) rfl rfl ?_
                      refine wk_i ?_
                      refine wi_ireturn (nx := 172) (r1 := 0) (r2 := 0) (r3 := 0) rfl rfl ?_
                      refine wk_i ?_
                      refine wi_istore (i := 8) (e := 1048576) (lo2 := [(8, vi 1048576), (0, .ref 56), (1, vi a0), (2, vi a1), (3, vi a2), (4, vi a3), (5, vi z4), (6, vi x8), (7, vi x9)]) (nx := 71) (r1 := 0) (r2 := 0) (r3 := 0) rfl rfl ?_
                      refine wi_iload (i := 8) (e := 1048576) (nx := 73) (r1 := 0) (r2 := 0) (r3 := 0) rfl rfl ?_
                      refine wi_iload (i := 6) (e := x8) (nx := 75) (r1 := 0) (r2 := 0) (r3 := 0) rfl rfl ?_
                      refine wi_icmp (cd := .ge) (nx := 78) (r1 := 92) (r2 := 0) (r3 := 0) rfl (by omega) (by omega) (fun (q57 : x8 ≤ 1048576) => ?_) (fun (q57 : ¬ (x8 ≤ 1048576)) => by exfalso; omega)
                      refine wr_iinc (i := 7) (n := 1) (v := x9) (fun e58 => [(7, vi e58), (8, vi 1048576), (0, .ref 56), (1, vi a0), (2, vi a1), (3, vi a2), (4, vi a3), (5, vi z4), (6, vi x8)]) (nx := 95) (r1 := 0) (r2 := 0) (r3 := 0) rfl rfl (fun _ => rfl) (fun e58 (fe58 : e58 = x9 + 1) => ?_)
                      refine wi_goto (nx := 98) (r1 := 46) (r2 := 0) (r3 := 0) rfl ?_
                      refine wp.lo (lo := [(0, .ref 56), (1, vi a0), (2, vi a1), (3, vi a2), (4, vi a3), (5, vi z4), (6, vi x8), (7, vi e58)]) ⟨rfl, rfl, rfl, rfl, rfl, rfl, rfl, rfl, trivial⟩ rfl ?_
                      exact I10 x8 e58 h53 ⟨g53, F54, F55, (show (-2147483648 ≤ x8 ∧ x8 ≤ 1048576) ∧ (0 ≤ e58 ∧ e58 ≤ 4) by omega)⟩ (show ((4 : Int) + 1 - e58).toNat < ((4 : Int) + 1 - x9).toNat by omega)
                    ·
                      refine wi_iload_n (i := 0) (e := e50) (nx := 6) (r1 := 0) (r2 := 0) (r3 := 0) rfl rfl ?_
                      refine wi_goto (nx := 9) (r1 := 10) (r2 := 0) (r3 := 0) rfl ?_
                      refine wi_ireturn (nx := 11) (r1 := 0) (r2 := 0) (r3 := 0) rfl rfl ?_
                      refine wk_i ?_
                      refine wi_ireturn (nx := 172) (r1 := 0) (r2 := 0) (r3 := 0) rfl rfl ?_
                      refine wk_i ?_
                      refine wi_istore (i := 8) (e := e50) (lo2 := [(8, vi e50), (0, .ref 56), (1, vi a0), (2, vi a1), (3, vi a2), (4, vi a3), (5, vi z4), (6, vi x8), (7, vi x9)]) (nx := 71) (r1 := 0) (r2 := 0) (r3 := 0) rfl rfl ?_
                      refine wi_iload (i := 8) (e := e50) (nx := 73) (r1 := 0) (r2 := 0) (r3 := 0) rfl rfl ?_
                      refine wi_iload (i := 6) (e := x8) (nx := 75) (r1 := 0) (r2 := 0) (r3 := 0) rfl rfl ?_
                      refine wi_icmp (cd := .ge) (nx := 78) (r1 := 92) (r2 := 0) (r3 := 0) rfl (by omega) (by omega) (fun (q57 : x8 ≤ e50) => ?_) (fun (q57 : ¬ (x8 ≤ e50)) => ?_)
                      ·
                        refine wr_iinc (i := 7) (n := 1) (v := x9) (fun e58 => [(7, vi e58), (8, vi e50), (0, .ref 56), (1, vi a0), (2, vi a1), (3, vi a2), (4, vi a3), (5, vi z4), (6, vi x8)]) (nx := 95) (r1 := 0) (r2 := 0) (r3 := 0) rfl rfl (fun _ => rfl) (fun e58 (fe58 : e58 = x9 + 1) => ?_)
                        refine wi_goto (nx := 98) (r1 := 46) (r2 := 0) (r3 := 0) rfl ?_
                        refine wp.lo (lo := [(0, .ref 56), (1, vi a0), (2, vi a1), (3, vi a2), (4, vi a3), (5, vi z4), (6, vi x8), (7, vi e58)]) ⟨rfl, rfl, rfl, rfl, rfl, rfl, rfl, rfl, trivial⟩ rfl ?_
                        exact I10 x8 e58 h53 ⟨g53, F54, F55, (show (-2147483648 ≤ x8 ∧ x8 ≤ 1048576) ∧ (0 ≤ e58 ∧ e58 ≤ 4) by omega)⟩ (show ((4 : Int) + 1 - e58).toNat < ((4 : Int) + 1 - x9).toNat by omega)
                      ·
                        refine wi_iload (i := 8) (e := e50) (nx := 80) (r1 := 0) (r2 := 0) (r3 := 0) rfl rfl ?_
                        refine wi_istore (i := 6) (e := e50) (lo2 := [(6, vi e50), (8, vi e50), (0, .ref 56), (1, vi a0), (2, vi a1), (3, vi a2), (4, vi a3), (5, vi z4), (7, vi x9)]) (nx := 82) (r1 := 0) (r2 := 0) (r3 := 0) rfl rfl ?_
                        refine wi_aload_n (i := 0) (x := 56) (nx := 83) (r1 := 0) (r2 := 0) (r3 := 0) rfl rfl ?_
                        refine wr_gr (k0 := 56) (x := 58) (nx := 86) (r1 := 6) (r2 := 3) (r3 := 0) rfl rfl (by decide) rfl ⟨rfl, rfl⟩ rfl ?_
                        refine wi_iload (i := 5) (e := z4) (nx := 88) (r1 := 0) (r2 := 0) (r3 := 0) rfl rfl ?_
                        refine wi_iload (i := 7) (e := x9) (nx := 90) (r1 := 0) (r2 := 0) (r3 := 0) rfl rfl ?_
                        refine wr_i2bA (nx := 91) (r1 := 0) (r2 := 0) (r3 := 0) rfl (fun e58 (fe58 : -128 ≤ e58 ∧ e58 ≤ 127) => ?_)
                        refine wr_bs (k0 := 58) (a := z4) (f := i5) (x := e58) (bl := -128) (bh := 127) (nx := 92) (r1 := 0) (r2 := 0) (r3 := 0) rfl (by decide) rfl (by omega) (by omega) (by omega) (by decide) g53 rfl (by omega) (fun h59 g59 w59 u59 => ?_)
                        have F60 := F54.then rfl (FR.rngp (lo := 58) (hi := 58) u59 (by decide))
                        have F61 := F55.then rfl (FR.rngp (lo := 58) (hi := 58) u59 (by decide))
                        refine wr_iinc (i := 7) (n := 1) (v := x9) (fun e62 => [(7, vi e62), (6, vi e50), (8, vi e50), (0, .ref 56), (1, vi a0), (2, vi a1), (3, vi a2), (4, vi a3), (5, vi z4)]) (nx := 95) (r1 := 0) (r2 := 0) (r3 := 0) rfl rfl (fun _ => rfl) (fun e62 (fe62 : e62 = x9 + 1) => ?_)
                        refine wi_goto (nx := 98) (r1 := 46) (r2 := 0) (r3 := 0) rfl ?_
                        refine wp.lo (lo := [(0, .ref 56), (1, vi a0), (2, vi a1), (3, vi a2), (4, vi a3), (5, vi z4), (6, vi e50), (7, vi e62)]) ⟨rfl, rfl, rfl, rfl, rfl, rfl, rfl, rfl, trivial⟩ rfl ?_
                        exact I10 e50 e62 h59 ⟨g59, F60, F61, (show (-2147483648 ≤ e50 ∧ e50 ≤ 1048576) ∧ (0 ≤ e62 ∧ e62 ≤ 4) by omega)⟩ (show ((4 : Int) + 1 - e62).toNat < ((4 : Int) + 1 - x9).toNat by omega)
                  ·
                    refine wi_iconst (n := 2) (nx := 23) (r1 := 0) (r2 := 0) (r3 := 0) rfl ?_
                    refine wi_goto (nx := 26) (r1 := 27) (r2 := 0) (r3 := 0) rfl ?_
                    refine wi_ireturn (nx := 28) (r1 := 0) (r2 := 0) (r3 := 0) rfl rfl ?_
                    refine wk_i ?_
                    refine wi_istore (i := 8) (e := 2) (lo2 := [(8, vi 2), (7, vi (h 19 i26)), (6, vi z18), (0, .ref 56), (1, vi x9), (2, vi a0), (3, vi a1), (4, vi a2), (5, vi a3)]) (nx := 83) (r1 := 0) (r2 := 0) (r3 := 0) rfl rfl ?_
                    refine wi_aload_n (i := 0) (x := 56) (nx := 84) (r1 := 0) (r2 := 0) (r3 := 0) rfl rfl ?_
                    refine wr_gr (k0 := 56) (x := 3) (nx := 87) (r1 := 6) (r2 := 0) (r3 := 0) rfl rfl (by decide) rfl ⟨rfl, rfl⟩ rfl ?_
                    refine wi_iload (i := 8) (e := 2) (nx := 89) (r1 := 0) (r2 := 0) (r3 := 0) rfl rfl ?_
                    refine wi_iload (i := 7) (e := h 19 i26) (nx := 91) (r1 := 0) (r2 := 0) (r3 := 0) rfl rfl ?_
                    refine wr_V (k0 := 3) (rest := []) (as := [.ref 3, vi 2, vi (h 19 i26)]) (nx := 94) (r1 := 58) (r2 := 2) (r3 := 2) rfl rfl rfl (of_decide_eq_true rfl) rfl rfl (by decide) rfl rfl (of_decide_eq_true rfl) (of_decide_eq_true rfl) ?_
                    refine ct_58_3 hcr  g10 2 (h 19 i26) (by omega) (by omega)  (fun z33  (fz33 : -2147483648 ≤ z33 ∧ z33 ≤ 2147483647) => ?_)
                    refine wk_i ?_
                    refine wi_bipush (n := 16) (nx := 96) (r1 := 0) (r2 := 0) (r3 := 0) rfl (by decide) ?_
                    refine wr_mulW (nx := 97) (r1 := 0) (r2 := 0) (r3 := 0) rfl (fun e34 (fe34 : -2147483648 ≤ e34 ∧ e34 ≤ 2147483647) => ?_)
                    refine wi_iload (i := 8) (e := 2) (nx := 99) (r1 := 0) (r2 := 0) (r3 := 0) rfl rfl ?_
                    refine wi_iconst (n := 1) (nx := 100) (r1 := 0) (r2 := 0) (r3 := 0) rfl ?_
                    refine wi_icmp (cd := .ne) (nx := 103) (r1 := 107) (r2 := 0) (r3 := 0) rfl (by omega) (by omega) (fun (q35 : 2 ≠ 1) => ?_) (fun (q35 : ¬ (2 ≠ 1)) => by exfalso; omega)
                    refine wi_iconst (n := 0) (nx := 108) (r1 := 0) (r2 := 0) (r3 := 0) rfl ?_
                    refine wr_add (nx := 109) (r1 := 0) (r2 := 0) (r3 := 0) rfl (fun e36 (fe36 : e36 = e34 + 0) => ?_)
                    refine wi_istore (i := 9) (e := e36) (lo2 := [(9, vi e36), (8, vi 2), (7, vi (h 19 i26)), (6, vi z18), (0, .ref 56), (1, vi x9), (2, vi a0), (3, vi a1), (4, vi a2), (5, vi a3)]) (nx := 111) (r1 := 0) (r2 := 0) (r3 := 0) rfl rfl ?_
                    refine wi_iload_n (i := 3) (e := a1) (nx := 112) (r1 := 0) (r2 := 0) (r3 := 0) rfl rfl ?_
                    refine wi_aload_n (i := 0) (x := 56) (nx := 113) (r1 := 0) (r2 := 0) (r3 := 0) rfl rfl ?_
                    refine wr_gr (k0 := 56) (x := 60) (nx := 116) (r1 := 6) (r2 := 5) (r3 := 0) rfl rfl (by decide) rfl ⟨rfl, rfl⟩ rfl ?_
                    refine wi_iload_n (i := 1) (e := x9) (nx := 117) (r1 := 0) (r2 := 0) (r3 := 0) rfl rfl ?_
                    have b37 := gi_b (lo := -2147483648) (hi := 2147483647) g 60 i14 rfl
                    refine wr_ia (k0 := 60) (a := x9) (f := i14) (x := h 60 i14) (nx := 118) (r1 := 0) (r2 := 0) (r3 := 0) rfl (by decide) rfl (by omega) (by omega) (by decide) (u10 60 i14 (fn_a (by omega) (fn_a (by omega) (fn_a (by omega) fn_0)))) ?_
                    refine wr_addW (nx := 119) (r1 := 0) (r2 := 0) (r3 := 0) rfl (fun e38 (fe38 : -2147483648 ≤ e38 ∧ e38 ≤ 2147483647) => ?_)
                    refine wi_istore (i := 10) (e := e38) (lo2 := [(10, vi e38), (9, vi e36), (8, vi 2), (7, vi (h 19 i26)), (6, vi z18), (0, .ref 56), (1, vi x9), (2, vi a0), (3, vi a1), (4, vi a2), (5, vi a3)]) (nx := 121) (r1 := 0) (r2 := 0) (r3 := 0) rfl rfl ?_
                    refine wi_aload_n (i := 0) (x := 56) (nx := 122) (r1 := 0) (r2 := 0) (r3 := 0) rfl rfl ?_
                    refine wr_gr (k0 := 56) (x := 59) (nx := 125) (r1 := 6) (r2 := 4) (r3 := 0) rfl rfl (by decide) rfl ⟨rfl, rfl⟩ rfl ?_
                    refine wi_iload_n (i := 1) (e := x9) (nx := 126) (r1 := 0) (r2 := 0) (r3 := 0) rfl rfl ?_
                    refine wi_dup2 (nx := 127) (r1 := 0) (r2 := 0) (r3 := 0) rfl rfl rfl ?_
                    refine wr_ia (k0 := 59) (a := x9) (f := i14) (x := h10 59 i14) (nx := 128) (r1 := 0) (r2 := 0) (r3 := 0) rfl (by decide) rfl (by omega) (by omega) (by decide) rfl ?_
                    refine wi_iconst (n := 1) (nx := 129) (r1 := 0) (r2 := 0) (r3 := 0) rfl ?_
                    refine wr_addW (nx := 130) (r1 := 0) (r2 := 0) (r3 := 0) rfl (fun e39 (fe39 : -2147483648 ≤ e39 ∧ e39 ≤ 2147483647) => ?_)
                    refine wr_is (k0 := 59) (a := x9) (f := i14) (x := e39) (bl := -2147483648) (bh := 2147483647) (nx := 131) (r1 := 0) (r2 := 0) (r3 := 0) rfl (by decide) rfl (by omega) (by omega) (by decide) g10 rfl (by omega) (fun h40 g40 w40 u40 => ?_)
                    have F41 := F11.then rfl (FR.rngp (lo := 59) (hi := 59) u40 (by decide))
                    have F42 := u10.then rfl (FR.rngp (lo := 59) (hi := 59) u40 (by decide))
                    refine wi_iload (i := 9) (e := e36) (nx := 133) (r1 := 0) (r2 := 0) (r3 := 0) rfl rfl ?_
                    refine wi_aload_n (i := 0) (x := 56) (nx := 134) (r1 := 0) (r2 := 0) (r3 := 0) rfl rfl ?_
                    refine wi_iload_n (i := 2) (e := a0) (nx := 135) (r1 := 0) (r2 := 0) (r3 := 0) rfl rfl ?_
                    refine wi_iconst (n := 1) (nx := 136) (r1 := 0) (r2 := 0) (r3 := 0) rfl ?_
                    refine wr_add (nx := 137) (r1 := 0) (r2 := 0) (r3 := 0) rfl (fun e43 (fe43 : e43 = a0 + 1) => ?_)
                    refine wi_iload (i := 10) (e := e38) (nx := 139) (r1 := 0) (r2 := 0) (r3 := 0) rfl rfl ?_
                    refine wi_iload (i := 7) (e := h 19 i26) (nx := 141) (r1 := 0) (r2 := 0) (r3 := 0) rfl rfl ?_
                    refine wi_iload (i := 8) (e := 2) (nx := 143) (r1 := 0) (r2 := 0) (r3 := 0) rfl rfl ?_
                    refine wi_iload (i := 5) (e := a3) (nx := 145) (r1 := 0) (r2 := 0) (r3 := 0) rfl rfl ?_
                    refine wi_S (rest := [vi (h 19 i26), vi e38, vi e43, .ref 56, vi e36]) (as := [vi 2, vi a3]) (nx := 148) (r1 := 59) (r2 := 18) (r3 := 0) rfl rfl rfl (of_decide_eq_true rfl) rfl rfl (of_decide_eq_true rfl) (of_decide_eq_true rfl) ?_
                    refine wi_iload_n (i := 0) (e := 2) (nx := 1) (r1 := 0) (r2 := 0) (r3 := 0) rfl rfl ?_
                    refine wi_if (cd := .ne) (nx := 4) (r1 := 10) (r2 := 0) (r3 := 0) rfl (by omega) (fun (q44 : 2 ≠ 0) => ?_) (fun (q44 : ¬ (2 ≠ 0)) => by exfalso; omega)
                    refine wi_iconst (n := 1) (nx := 11) (r1 := 0) (r2 := 0) (r3 := 0) rfl ?_
                    refine wi_ireturn (nx := 12) (r1 := 0) (r2 := 0) (r3 := 0) rfl rfl ?_
                    refine wk_i ?_
                    refine wr_V (k0 := 56) (rest := [vi e36]) (as := [.ref 56, vi e43, vi e38, vi (h 19 i26), vi 1]) (nx := 151) (r1 := 105) (r2 := 4) (r3 := 6) rfl rfl rfl (of_decide_eq_true rfl) rfl rfl (by decide) rfl rfl (of_decide_eq_true rfl) (of_decide_eq_true rfl) ?_
                    refine wp_eq (e := d + 2 * (n - 1) + 5) (by omega) ?_
                    refine IH (n - 1) (by omega) g40 e43 e38 (h 19 i26) 1 (by omega) (by omega) (by omega) (by omega)  (by omega) (fun h45 z46 g45 u45 (fz46 : -2147483648 ≤ z46 ∧ z46 ≤ 2147483647) => ?_)
                    have F47 := F41.then (by decide +kernel) u45
                    have F48 := F42.then (by decide +kernel) u45
                    refine wk_i ?_
                    refine wr_addW (nx := 152) (r1 := 0) (r2 := 0) (r3 := 0) rfl (fun e49 (fe49 : -2147483648 ≤ e49 ∧ e49 ≤ 2147483647) => ?_)
                    refine wi_istore (i := 9) (e := e49) (lo2 := [(9, vi e49), (10, vi e38), (8, vi 2), (7, vi (h 19 i26)), (6, vi z18), (0, .ref 56), (1, vi x9), (2, vi a0), (3, vi a1), (4, vi a2), (5, vi a3)]) (nx := 154) (r1 := 0) (r2 := 0) (r3 := 0) rfl rfl ?_
                    refine wi_aload_n (i := 0) (x := 56) (nx := 155) (r1 := 0) (r2 := 0) (r3 := 0) rfl rfl ?_
                    refine wr_gr (k0 := 56) (x := 59) (nx := 158) (r1 := 6) (r2 := 4) (r3 := 0) rfl rfl (by decide) rfl ⟨rfl, rfl⟩ rfl ?_
                    refine wi_iload_n (i := 1) (e := x9) (nx := 159) (r1 := 0) (r2 := 0) (r3 := 0) rfl rfl ?_
                    refine wi_dup2 (nx := 160) (r1 := 0) (r2 := 0) (r3 := 0) rfl rfl rfl ?_
                    have b50 := gi_b (lo := -2147483648) (hi := 2147483647) g45 59 i14 rfl
                    refine wr_ia (k0 := 59) (a := x9) (f := i14) (x := h45 59 i14) (nx := 161) (r1 := 0) (r2 := 0) (r3 := 0) rfl (by decide) rfl (by omega) (by omega) (by decide) rfl ?_
                    refine wi_iconst (n := 1) (nx := 162) (r1 := 0) (r2 := 0) (r3 := 0) rfl ?_
                    refine wr_subW (nx := 163) (r1 := 0) (r2 := 0) (r3 := 0) rfl (fun e51 (fe51 : -2147483648 ≤ e51 ∧ e51 ≤ 2147483647) => ?_)
                    refine wr_is (k0 := 59) (a := x9) (f := i14) (x := e51) (bl := -2147483648) (bh := 2147483647) (nx := 164) (r1 := 0) (r2 := 0) (r3 := 0) rfl (by decide) rfl (by omega) (by omega) (by decide) g45 rfl (by omega) (fun h52 g52 w52 u52 => ?_)
                    have F53 := F47.then rfl (FR.rngp (lo := 59) (hi := 59) u52 (by decide))
                    have F54 := F48.then rfl (FR.rngp (lo := 59) (hi := 59) u52 (by decide))
                    refine wi_iload (i := 9) (e := e49) (nx := 166) (r1 := 0) (r2 := 0) (r3 := 0) rfl rfl ?_
                    refine wi_ldc (e := 1048576) (nx := 168) (r1 := 0) (r2 := 1048576) (r3 := 0) rfl rfl (by decide) ?_
                    refine wi_S (rest := []) (as := [vi e49, vi 1048576]) (nx := 171) (r1 := 133) (r2 := 18) (r3 := 0) rfl rfl rfl (of_decide_eq_true rfl) rfl rfl (of_decide_eq_true rfl) (of_decide_eq_true rfl) ?_
                    refine wi_iload_n (i := 0) (e := e49) (nx := 1) (r1 := 0) (r2 := 0) (r3 := 0) rfl rfl ?_
                    refine wi_iload_n (i := 1) (e := 1048576) (nx := 2) (r1 := 0) (r2 := 0) (r3 := 0) rfl rfl ?_
                    refine wi_icmp (cd := .gt) (nx := 5) (r1 := 9) (r2 := 0) (r3 := 0) rfl (by omega) (by omega) (fun (q55 : 1048576 < e49) => ?_) (fun (q55 : ¬ (1048576 < e49)) => ?_)
                    ·
                      refine wi_iload_n (i := 1) (e := 1048576) (nx := 10) (r1 := 0) (r2 := 0) (r3 := 0) rfl rfl ?_
                      refine wi_ireturn (nx := 11) (r1 := 0) (r2 := 0) (r3 := 0) rfl rfl ?_
                      refine wk_i ?_
                      refine wi_ireturn (nx := 172) (r1 := 0) (r2 := 0) (r3 := 0) rfl rfl ?_
                      refine wk_i ?_
                      refine wi_istore (i := 8) (e := 1048576) (lo2 := [(8, vi 1048576), (0, .ref 56), (1, vi a0), (2, vi a1), (3, vi a2), (4, vi a3), (5, vi z4), (6, vi x8), (7, vi x9)]) (nx := 71) (r1 := 0) (r2 := 0) (r3 := 0) rfl rfl ?_
                      refine wi_iload (i := 8) (e := 1048576) (nx := 73) (r1 := 0) (r2 := 0) (r3 := 0) rfl rfl ?_
                      refine wi_iload (i := 6) (e := x8) (nx := 75) (r1 := 0) (r2 := 0) (r3 := 0) rfl rfl ?_
                      refine wi_icmp (cd := .ge) (nx := 78) (r1 := 92) (r2 := 0) (r3 := 0) rfl (by omega) (by omega) (fun (q56 : x8 ≤ 1048576) => ?_) (fun (q56 : ¬ (x8 ≤ 1048576)) => by exfalso; omega)
                      refine wr_iinc (i := 7) (n := 1) (v := x9) (fun e57 => [(7, vi e57), (8, vi 1048576), (0, .ref 56), (1, vi a0), (2, vi a1), (3, vi a2), (4, vi a3), (5, vi z4), (6, vi x8)]) (nx := 95) (r1 := 0) (r2 := 0) (r3 := 0) rfl rfl (fun _ => rfl) (fun e57 (fe57 : e57 = x9 + 1) => ?_)
                      refine wi_goto (nx := 98) (r1 := 46) (r2 := 0) (r3 := 0) rfl ?_
                      refine wp.lo (lo := [(0, .ref 56), (1, vi a0), (2, vi a1), (3, vi a2), (4, vi a3), (5, vi z4), (6, vi x8), (7, vi e57)]) ⟨rfl, rfl, rfl, rfl, rfl, rfl, rfl, rfl, trivial⟩ rfl ?_
                      exact I10 x8 e57 h52 ⟨g52, F53, F54, (show (-2147483648 ≤ x8 ∧ x8 ≤ 1048576) ∧ (0 ≤ e57 ∧ e57 ≤ 4) by omega)⟩ (show ((4 : Int) + 1 - e57).toNat < ((4 : Int) + 1 - x9).toNat by omega)
                    ·
                      refine wi_iload_n (i := 0) (e := e49) (nx := 6) (r1 := 0) (r2 := 0) (r3 := 0) rfl rfl ?_
                      refine wi_goto (nx := 9) (r1 := 10) (r2 := 0) (r3 := 0) rfl ?_
                      refine wi_ireturn (nx := 11) (r1 := 0) (r2 := 0) (r3 := 0) rfl rfl ?_
                      refine wk_i ?_
                      refine wi_ireturn (nx := 172) (r1 := 0) (r2 := 0) (r3 := 0) rfl rfl ?_
                      refine wk_i ?_
                      refine wi_istore (i := 8) (e := e49) (lo2 := [(8, vi e49), (0, .ref 56), (1, vi a0), (2, vi a1), (3, vi a2), (4, vi a3), (5, vi z4), (6, vi x8), (7, vi x9)]) (nx := 71) (r1 := 0) (r2 := 0) (r3 := 0) rfl rfl ?_
                      refine wi_iload (i := 8) (e := e49) (nx := 73) (r1 := 0) (r2 := 0) (r3 := 0) rfl rfl ?_
                      refine wi_iload (i := 6) (e := x8) (nx := 75) (r1 := 0) (r2 := 0) (r3 := 0) rfl rfl ?_
                      refine wi_icmp (cd := .ge) (nx := 78) (r1 := 92) (r2 := 0) (r3 := 0) rfl (by omega) (by omega) (fun (q56 : x8 ≤ e49) => ?_) (fun (q56 : ¬ (x8 ≤ e49)) => ?_)
                      ·
                        refine wr_iinc (i := 7) (n := 1) (v := x9) (fun e57 => [(7, vi e57), (8, vi e49), (0, .ref 56), (1, vi a0), (2, vi a1), (3, vi a2), (4, vi a3), (5, vi z4), (6, vi x8)]) (nx := 95) (r1 := 0) (r2 := 0) (r3 := 0) rfl rfl (fun _ => rfl) (fun e57 (fe57 : e57 = x9 + 1) => ?_)
                        refine wi_goto (nx := 98) (r1 := 46) (r2 := 0) (r3 := 0) rfl ?_
                        refine wp.lo (lo := [(0, .ref 56), (1, vi a0), (2, vi a1), (3, vi a2), (4, vi a3), (5, vi z4), (6, vi x8), (7, vi e57)]) ⟨rfl, rfl, rfl, rfl, rfl, rfl, rfl, rfl, trivial⟩ rfl ?_
                        exact I10 x8 e57 h52 ⟨g52, F53, F54, (show (-2147483648 ≤ x8 ∧ x8 ≤ 1048576) ∧ (0 ≤ e57 ∧ e57 ≤ 4) by omega)⟩ (show ((4 : Int) + 1 - e57).toNat < ((4 : Int) + 1 - x9).toNat by omega)
                      ·
                        refine wi_iload (i := 8) (e := e49) (nx := 80) (r1 := 0) (r2 := 0) (r3 := 0) rfl rfl ?_
                        refine wi_istore (i := 6) (e := e49) (lo2 := [(6, vi e49), (8, vi e49), (0, .ref 56), (1, vi a0), (2, vi a1), (3, vi a2), (4, vi a3), (5, vi z4), (7, vi x9)]) (nx := 82) (r1 := 0) (r2 := 0) (r3 := 0) rfl rfl ?_
                        refine wi_aload_n (i := 0) (x := 56) (nx := 83) (r1 := 0) (r2 := 0) (r3 := 0) rfl rfl ?_
                        refine wr_gr (k0 := 56) (x := 58) (nx := 86) (r1 := 6) (r2 := 3) (r3 := 0) rfl rfl (by decide) rfl ⟨rfl, rfl⟩ rfl ?_
                        refine wi_iload (i := 5) (e := z4) (nx := 88) (r1 := 0) (r2 := 0) (r3 := 0) rfl rfl ?_
                        refine wi_iload (i := 7) (e := x9) (nx := 90) (r1 := 0) (r2 := 0) (r3 := 0) rfl rfl ?_
                        refine wr_i2bA (nx := 91) (r1 := 0) (r2 := 0) (r3 := 0) rfl (fun e57 (fe57 : -128 ≤ e57 ∧ e57 ≤ 127) => ?_)
                        refine wr_bs (k0 := 58) (a := z4) (f := i5) (x := e57) (bl := -128) (bh := 127) (nx := 92) (r1 := 0) (r2 := 0) (r3 := 0) rfl (by decide) rfl (by omega) (by omega) (by omega) (by decide) g52 rfl (by omega) (fun h58 g58 w58 u58 => ?_)
                        have F59 := F53.then rfl (FR.rngp (lo := 58) (hi := 58) u58 (by decide))
                        have F60 := F54.then rfl (FR.rngp (lo := 58) (hi := 58) u58 (by decide))
                        refine wr_iinc (i := 7) (n := 1) (v := x9) (fun e61 => [(7, vi e61), (6, vi e49), (8, vi e49), (0, .ref 56), (1, vi a0), (2, vi a1), (3, vi a2), (4, vi a3), (5, vi z4)]) (nx := 95) (r1 := 0) (r2 := 0) (r3 := 0) rfl rfl (fun _ => rfl) (fun e61 (fe61 : e61 = x9 + 1) => ?_)
                        refine wi_goto (nx := 98) (r1 := 46) (r2 := 0) (r3 := 0) rfl ?_
                        refine wp.lo (lo := [(0, .ref 56), (1, vi a0), (2, vi a1), (3, vi a2), (4, vi a3), (5, vi z4), (6, vi e49), (7, vi e61)]) ⟨rfl, rfl, rfl, rfl, rfl, rfl, rfl, rfl, trivial⟩ rfl ?_
                        exact I10 e49 e61 h58 ⟨g58, F59, F60, (show (-2147483648 ≤ e49 ∧ e49 ≤ 1048576) ∧ (0 ≤ e61 ∧ e61 ≤ 4) by omega)⟩ (show ((4 : Int) + 1 - e61).toNat < ((4 : Int) + 1 - x9).toNat by omega)
                ·
                  refine wi_iconst (n := 1) (nx := 13) (r1 := 0) (r2 := 0) (r3 := 0) rfl ?_
                  refine wi_ireturn (nx := 14) (r1 := 0) (r2 := 0) (r3 := 0) rfl rfl ?_
                  refine wk_i ?_
                  refine wi_istore (i := 8) (e := 1) (lo2 := [(8, vi 1), (7, vi (h 19 i26)), (6, vi z18), (0, .ref 56), (1, vi x9), (2, vi a0), (3, vi a1), (4, vi a2), (5, vi a3)]) (nx := 83) (r1 := 0) (r2 := 0) (r3 := 0) rfl rfl ?_
                  refine wi_aload_n (i := 0) (x := 56) (nx := 84) (r1 := 0) (r2 := 0) (r3 := 0) rfl rfl ?_
                  refine wr_gr (k0 := 56) (x := 3) (nx := 87) (r1 := 6) (r2 := 0) (r3 := 0) rfl rfl (by decide) rfl ⟨rfl, rfl⟩ rfl ?_
                  refine wi_iload (i := 8) (e := 1) (nx := 89) (r1 := 0) (r2 := 0) (r3 := 0) rfl rfl ?_
                  refine wi_iload (i := 7) (e := h 19 i26) (nx := 91) (r1 := 0) (r2 := 0) (r3 := 0) rfl rfl ?_
                  refine wr_V (k0 := 3) (rest := []) (as := [.ref 3, vi 1, vi (h 19 i26)]) (nx := 94) (r1 := 58) (r2 := 2) (r3 := 2) rfl rfl rfl (of_decide_eq_true rfl) rfl rfl (by decide) rfl rfl (of_decide_eq_true rfl) (of_decide_eq_true rfl) ?_
                  refine ct_58_3 hcr  g10 1 (h 19 i26) (by omega) (by omega)  (fun z31  (fz31 : -2147483648 ≤ z31 ∧ z31 ≤ 2147483647) => ?_)
                  refine wk_i ?_
                  refine wi_bipush (n := 16) (nx := 96) (r1 := 0) (r2 := 0) (r3 := 0) rfl (by decide) ?_
                  refine wr_mulW (nx := 97) (r1 := 0) (r2 := 0) (r3 := 0) rfl (fun e32 (fe32 : -2147483648 ≤ e32 ∧ e32 ≤ 2147483647) => ?_)
                  refine wi_iload (i := 8) (e := 1) (nx := 99) (r1 := 0) (r2 := 0) (r3 := 0) rfl rfl ?_
                  refine wi_iconst (n := 1) (nx := 100) (r1 := 0) (r2 := 0) (r3 := 0) rfl ?_
                  refine wi_icmp (cd := .ne) (nx := 103) (r1 := 107) (r2 := 0) (r3 := 0) rfl (by omega) (by omega) (fun (q33 : 1 ≠ 1) => by exfalso; omega) (fun (q33 : ¬ (1 ≠ 1)) => ?_)
                  refine wi_iconst (n := 1) (nx := 104) (r1 := 0) (r2 := 0) (r3 := 0) rfl ?_
                  refine wi_goto (nx := 107) (r1 := 108) (r2 := 0) (r3 := 0) rfl ?_
                  refine wr_addW (nx := 109) (r1 := 0) (r2 := 0) (r3 := 0) rfl (fun e34 (fe34 : -2147483648 ≤ e34 ∧ e34 ≤ 2147483647) => ?_)
                  refine wi_istore (i := 9) (e := e34) (lo2 := [(9, vi e34), (8, vi 1), (7, vi (h 19 i26)), (6, vi z18), (0, .ref 56), (1, vi x9), (2, vi a0), (3, vi a1), (4, vi a2), (5, vi a3)]) (nx := 111) (r1 := 0) (r2 := 0) (r3 := 0) rfl rfl ?_
                  refine wi_iload_n (i := 3) (e := a1) (nx := 112) (r1 := 0) (r2 := 0) (r3 := 0) rfl rfl ?_
                  refine wi_aload_n (i := 0) (x := 56) (nx := 113) (r1 := 0) (r2 := 0) (r3 := 0) rfl rfl ?_
                  refine wr_gr (k0 := 56) (x := 60) (nx := 116) (r1 := 6) (r2 := 5) (r3 := 0) rfl rfl (by decide) rfl ⟨rfl, rfl⟩ rfl ?_
                  refine wi_iload_n (i := 1) (e := x9) (nx := 117) (r1 := 0) (r2 := 0) (r3 := 0) rfl rfl ?_
                  have b35 := gi_b (lo := -2147483648) (hi := 2147483647) g 60 i14 rfl
                  refine wr_ia (k0 := 60) (a := x9) (f := i14) (x := h 60 i14) (nx := 118) (r1 := 0) (r2 := 0) (r3 := 0) rfl (by decide) rfl (by omega) (by omega) (by decide) (u10 60 i14 (fn_a (by omega) (fn_a (by omega) (fn_a (by omega) fn_0)))) ?_
                  refine wr_addW (nx := 119) (r1 := 0) (r2 := 0) (r3 := 0) rfl (fun e36 (fe36 : -2147483648 ≤ e36 ∧ e36 ≤ 2147483647) => ?_)
                  refine wi_istore (i := 10) (e := e36) (lo2 := [(10, vi e36), (9, vi e34), (8, vi 1), (7, vi (h 19 i26)), (6, vi z18), (0, .ref 56), (1, vi x9), (2, vi a0), (3, vi a1), (4, vi a2), (5, vi a3)]) (nx := 121) (r1 := 0) (r2 := 0) (r3 := 0) rfl rfl ?_
                  refine wi_aload_n (i := 0) (x := 56) (nx := 122) (r1 := 0) (r2 := 0) (r3 := 0) rfl rfl ?_
                  refine wr_gr (k0 := 56) (x := 59) (nx := 125) (r1 := 6) (r2 := 4) (r3 := 0) rfl rfl (by decide) rfl ⟨rfl, rfl⟩ rfl ?_
                  refine wi_iload_n (i := 1) (e := x9) (nx := 126) (r1 := 0) (r2 := 0) (r3 := 0) rfl rfl ?_
                  refine wi_dup2 (nx := 127) (r1 := 0) (r2 := 0) (r3 := 0) rfl rfl rfl ?_
                  refine wr_ia (k0 := 59) (a := x9) (f := i14) (x := h10 59 i14) (nx := 128) (r1 := 0) (r2 := 0) (r3 := 0) rfl (by decide) rfl (by omega) (by omega) (by decide) rfl ?_
                  refine wi_iconst (n := 1) (nx := 129) (r1 := 0) (r2 := 0) (r3 := 0) rfl ?_
                  refine wr_addW (nx := 130) (r1 := 0) (r2 := 0) (r3 := 0) rfl (fun e37 (fe37 : -2147483648 ≤ e37 ∧ e37 ≤ 2147483647) => ?_)
                  refine wr_is (k0 := 59) (a := x9) (f := i14) (x := e37) (bl := -2147483648) (bh := 2147483647) (nx := 131) (r1 := 0) (r2 := 0) (r3 := 0) rfl (by decide) rfl (by omega) (by omega) (by decide) g10 rfl (by omega) (fun h38 g38 w38 u38 => ?_)
                  have F39 := F11.then rfl (FR.rngp (lo := 59) (hi := 59) u38 (by decide))
                  have F40 := u10.then rfl (FR.rngp (lo := 59) (hi := 59) u38 (by decide))
                  refine wi_iload (i := 9) (e := e34) (nx := 133) (r1 := 0) (r2 := 0) (r3 := 0) rfl rfl ?_
                  refine wi_aload_n (i := 0) (x := 56) (nx := 134) (r1 := 0) (r2 := 0) (r3 := 0) rfl rfl ?_
                  refine wi_iload_n (i := 2) (e := a0) (nx := 135) (r1 := 0) (r2 := 0) (r3 := 0) rfl rfl ?_
                  refine wi_iconst (n := 1) (nx := 136) (r1 := 0) (r2 := 0) (r3 := 0) rfl ?_
                  refine wr_add (nx := 137) (r1 := 0) (r2 := 0) (r3 := 0) rfl (fun e41 (fe41 : e41 = a0 + 1) => ?_)
                  refine wi_iload (i := 10) (e := e36) (nx := 139) (r1 := 0) (r2 := 0) (r3 := 0) rfl rfl ?_
                  refine wi_iload (i := 7) (e := h 19 i26) (nx := 141) (r1 := 0) (r2 := 0) (r3 := 0) rfl rfl ?_
                  refine wi_iload (i := 8) (e := 1) (nx := 143) (r1 := 0) (r2 := 0) (r3 := 0) rfl rfl ?_
                  refine wi_iload (i := 5) (e := a3) (nx := 145) (r1 := 0) (r2 := 0) (r3 := 0) rfl rfl ?_
                  refine wi_S (rest := [vi (h 19 i26), vi e36, vi e41, .ref 56, vi e34]) (as := [vi 1, vi a3]) (nx := 148) (r1 := 59) (r2 := 18) (r3 := 0) rfl rfl rfl (of_decide_eq_true rfl) rfl rfl (of_decide_eq_true rfl) (of_decide_eq_true rfl) ?_
                  refine wi_iload_n (i := 0) (e := 1) (nx := 1) (r1 := 0) (r2 := 0) (r3 := 0) rfl rfl ?_
                  refine wi_if (cd := .ne) (nx := 4) (r1 := 10) (r2 := 0) (r3 := 0) rfl (by omega) (fun (q42 : 1 ≠ 0) => ?_) (fun (q42 : ¬ (1 ≠ 0)) => by exfalso; omega)
                  refine wi_iconst (n := 1) (nx := 11) (r1 := 0) (r2 := 0) (r3 := 0) rfl ?_
                  refine wi_ireturn (nx := 12) (r1 := 0) (r2 := 0) (r3 := 0) rfl rfl ?_
                  refine wk_i ?_
                  refine wr_V (k0 := 56) (rest := [vi e34]) (as := [.ref 56, vi e41, vi e36, vi (h 19 i26), vi 1]) (nx := 151) (r1 := 105) (r2 := 4) (r3 := 6) rfl rfl rfl (of_decide_eq_true rfl) rfl rfl (by decide) rfl rfl (of_decide_eq_true rfl) (of_decide_eq_true rfl) ?_
                  refine wp_eq (e := d + 2 * (n - 1) + 5) (by omega) ?_
                  refine IH (n - 1) (by omega) g38 e41 e36 (h 19 i26) 1 (by omega) (by omega) (by omega) (by omega)  (by omega) (fun h43 z44 g43 u43 (fz44 : -2147483648 ≤ z44 ∧ z44 ≤ 2147483647) => ?_)
                  have F45 := F39.then (by decide +kernel) u43
                  have F46 := F40.then (by decide +kernel) u43
                  refine wk_i ?_
                  refine wr_addW (nx := 152) (r1 := 0) (r2 := 0) (r3 := 0) rfl (fun e47 (fe47 : -2147483648 ≤ e47 ∧ e47 ≤ 2147483647) => ?_)
                  refine wi_istore (i := 9) (e := e47) (lo2 := [(9, vi e47), (10, vi e36), (8, vi 1), (7, vi (h 19 i26)), (6, vi z18), (0, .ref 56), (1, vi x9), (2, vi a0), (3, vi a1), (4, vi a2), (5, vi a3)]) (nx := 154) (r1 := 0) (r2 := 0) (r3 := 0) rfl rfl ?_
                  refine wi_aload_n (i := 0) (x := 56) (nx := 155) (r1 := 0) (r2 := 0) (r3 := 0) rfl rfl ?_
                  refine wr_gr (k0 := 56) (x := 59) (nx := 158) (r1 := 6) (r2 := 4) (r3 := 0) rfl rfl (by decide) rfl ⟨rfl, rfl⟩ rfl ?_
                  refine wi_iload_n (i := 1) (e := x9) (nx := 159) (r1 := 0) (r2 := 0) (r3 := 0) rfl rfl ?_
                  refine wi_dup2 (nx := 160) (r1 := 0) (r2 := 0) (r3 := 0) rfl rfl rfl ?_
                  have b48 := gi_b (lo := -2147483648) (hi := 2147483647) g43 59 i14 rfl
                  refine wr_ia (k0 := 59) (a := x9) (f := i14) (x := h43 59 i14) (nx := 161) (r1 := 0) (r2 := 0) (r3 := 0) rfl (by decide) rfl (by omega) (by omega) (by decide) rfl ?_
                  refine wi_iconst (n := 1) (nx := 162) (r1 := 0) (r2 := 0) (r3 := 0) rfl ?_
                  refine wr_subW (nx := 163) (r1 := 0) (r2 := 0) (r3 := 0) rfl (fun e49 (fe49 : -2147483648 ≤ e49 ∧ e49 ≤ 2147483647) => ?_)
                  refine wr_is (k0 := 59) (a := x9) (f := i14) (x := e49) (bl := -2147483648) (bh := 2147483647) (nx := 164) (r1 := 0) (r2 := 0) (r3 := 0) rfl (by decide) rfl (by omega) (by omega) (by decide) g43 rfl (by omega) (fun h50 g50 w50 u50 => ?_)
                  have F51 := F45.then rfl (FR.rngp (lo := 59) (hi := 59) u50 (by decide))
                  have F52 := F46.then rfl (FR.rngp (lo := 59) (hi := 59) u50 (by decide))
                  refine wi_iload (i := 9) (e := e47) (nx := 166) (r1 := 0) (r2 := 0) (r3 := 0) rfl rfl ?_
                  refine wi_ldc (e := 1048576) (nx := 168) (r1 := 0) (r2 := 1048576) (r3 := 0) rfl rfl (by decide) ?_
                  refine wi_S (rest := []) (as := [vi e47, vi 1048576]) (nx := 171) (r1 := 133) (r2 := 18) (r3 := 0) rfl rfl rfl (of_decide_eq_true rfl) rfl rfl (of_decide_eq_true rfl) (of_decide_eq_true rfl) ?_
                  refine wi_iload_n (i := 0) (e := e47) (nx := 1) (r1 := 0) (r2 := 0) (r3 := 0) rfl rfl ?_
                  refine wi_iload_n (i := 1) (e := 1048576) (nx := 2) (r1 := 0) (r2 := 0) (r3 := 0) rfl rfl ?_
                  refine wi_icmp (cd := .gt) (nx := 5) (r1 := 9) (r2 := 0) (r3 := 0) rfl (by omega) (by omega) (fun (q53 : 1048576 < e47) => ?_) (fun (q53 : ¬ (1048576 < e47)) => ?_)
                  ·
                    refine wi_iload_n (i := 1) (e := 1048576) (nx := 10) (r1 := 0) (r2 := 0) (r3 := 0) rfl rfl ?_
                    refine wi_ireturn (nx := 11) (r1 := 0) (r2 := 0) (r3 := 0) rfl rfl ?_
                    refine wk_i ?_
                    refine wi_ireturn (nx := 172) (r1 := 0) (r2 := 0) (r3 := 0) rfl rfl ?_
                    refine wk_i ?_
                    refine wi_istore (i := 8) (e := 1048576) (lo2 := [(8, vi 1048576), (0, .ref 56), (1, vi a0), (2, vi a1), (3, vi a2), (4, vi a3), (5, vi z4), (6, vi x8), (7, vi x9)]) (nx := 71) (r1 := 0) (r2 := 0) (r3 := 0) rfl rfl ?_
                    refine wi_iload (i := 8) (e := 1048576) (nx := 73) (r1 := 0) (r2 := 0) (r3 := 0) rfl rfl ?_
                    refine wi_iload (i := 6) (e := x8) (nx := 75) (r1 := 0) (r2 := 0) (r3 := 0) rfl rfl ?_
                    refine wi_icmp (cd := .ge) (nx := 78) (r1 := 92) (r2 := 0) (r3 := 0) rfl (by omega) (by omega) (fun (q54 : x8 ≤ 1048576) => ?_) (fun (q54 : ¬ (x8 ≤ 1048576)) => by exfalso; omega)
                    refine wr_iinc (i := 7) (n := 1) (v := x9) (fun e55 => [(7, vi e55), (8, vi 1048576), (0, .ref 56), (1, vi a0), (2, vi a1), (3, vi a2), (4, vi a3), (5, vi z4), (6, vi x8)]) (nx := 95) (r1 := 0) (r2 := 0) (r3 := 0) rfl rfl (fun _ => rfl) (fun e55 (fe55 : e55 = x9 + 1) => ?_)
                    refine wi_goto (nx := 98) (r1 := 46) (r2 := 0) (r3 := 0) rfl ?_
                    refine wp.lo (lo := [(0, .ref 56), (1, vi a0), (2, vi a1), (3, vi a2), (4, vi a3), (5, vi z4), (6, vi x8), (7, vi e55)]) ⟨rfl, rfl, rfl, rfl, rfl, rfl, rfl, rfl, trivial⟩ rfl ?_
                    exact I10 x8 e55 h50 ⟨g50, F51, F52, (show (-2147483648 ≤ x8 ∧ x8 ≤ 1048576) ∧ (0 ≤ e55 ∧ e55 ≤ 4) by omega)⟩ (show ((4 : Int) + 1 - e55).toNat < ((4 : Int) + 1 - x9).toNat by omega)
                  ·
                    refine wi_iload_n (i := 0) (e := e47) (nx := 6) (r1 := 0) (r2 := 0) (r3 := 0) rfl rfl ?_
                    refine wi_goto (nx := 9) (r1 := 10) (r2 := 0) (r3 := 0) rfl ?_
                    refine wi_ireturn (nx := 11) (r1 := 0) (r2 := 0) (r3 := 0) rfl rfl ?_
                    refine wk_i ?_
                    refine wi_ireturn (nx := 172) (r1 := 0) (r2 := 0) (r3 := 0) rfl rfl ?_
                    refine wk_i ?_
                    refine wi_istore (i := 8) (e := e47) (lo2 := [(8, vi e47), (0, .ref 56), (1, vi a0), (2, vi a1), (3, vi a2), (4, vi a3), (5, vi z4), (6, vi x8), (7, vi x9)]) (nx := 71) (r1 := 0) (r2 := 0) (r3 := 0) rfl rfl ?_
                    refine wi_iload (i := 8) (e := e47) (nx := 73) (r1 := 0) (r2 := 0) (r3 := 0) rfl rfl ?_
                    refine wi_iload (i := 6) (e := x8) (nx := 75) (r1 := 0) (r2 := 0) (r3 := 0) rfl rfl ?_
                    refine wi_icmp (cd := .ge) (nx := 78) (r1 := 92) (r2 := 0) (r3 := 0) rfl (by omega) (by omega) (fun (q54 : x8 ≤ e47) => ?_) (fun (q54 : ¬ (x8 ≤ e47)) => ?_)
                    ·
                      refine wr_iinc (i := 7) (n := 1) (v := x9) (fun e55 => [(7, vi e55), (8, vi e47), (0, .ref 56), (1, vi a0), (2, vi a1), (3, vi a2), (4, vi a3), (5, vi z4), (6, vi x8)]) (nx := 95) (r1 := 0) (r2 := 0) (r3 := 0) rfl rfl (fun _ => rfl) (fun e55 (fe55 : e55 = x9 + 1) => ?_)
                      refine wi_goto (nx := 98) (r1 := 46) (r2 := 0) (r3 := 0) rfl ?_
                      refine wp.lo (lo := [(0, .ref 56), (1, vi a0), (2, vi a1), (3, vi a2), (4, vi a3), (5, vi z4), (6, vi x8), (7, vi e55)]) ⟨rfl, rfl, rfl, rfl, rfl, rfl, rfl, rfl, trivial⟩ rfl ?_
                      exact I10 x8 e55 h50 ⟨g50, F51, F52, (show (-2147483648 ≤ x8 ∧ x8 ≤ 1048576) ∧ (0 ≤ e55 ∧ e55 ≤ 4) by omega)⟩ (show ((4 : Int) + 1 - e55).toNat < ((4 : Int) + 1 - x9).toNat by omega)
                    ·
                      refine wi_iload (i := 8) (e := e47) (nx := 80) (r1 := 0) (r2 := 0) (r3 := 0) rfl rfl ?_
                      refine wi_istore (i := 6) (e := e47) (lo2 := [(6, vi e47), (8, vi e47), (0, .ref 56), (1, vi a0), (2, vi a1), (3, vi a2), (4, vi a3), (5, vi z4), (7, vi x9)]) (nx := 82) (r1 := 0) (r2 := 0) (r3 := 0) rfl rfl ?_
                      refine wi_aload_n (i := 0) (x := 56) (nx := 83) (r1 := 0) (r2 := 0) (r3 := 0) rfl rfl ?_
                      refine wr_gr (k0 := 56) (x := 58) (nx := 86) (r1 := 6) (r2 := 3) (r3 := 0) rfl rfl (by decide) rfl ⟨rfl, rfl⟩ rfl ?_
                      refine wi_iload (i := 5) (e := z4) (nx := 88) (r1 := 0) (r2 := 0) (r3 := 0) rfl rfl ?_
                      refine wi_iload (i := 7) (e := x9) (nx := 90) (r1 := 0) (r2 := 0) (r3 := 0) rfl rfl ?_
                      refine wr_i2bA (nx := 91) (r1 := 0) (r2 := 0) (r3 := 0) rfl (fun e55 (fe55 : -128 ≤ e55 ∧ e55 ≤ 127) => ?_)
                      refine wr_bs (k0 := 58) (a := z4) (f := i5) (x := e55) (bl := -128) (bh := 127) (nx := 92) (r1 := 0) (r2 := 0) (r3 := 0) rfl (by decide) rfl (by omega) (by omega) (by omega) (by decide) g50 rfl (by omega) (fun h56 g56 w56 u56 => ?_)
                      have F57 := F51.then rfl (FR.rngp (lo := 58) (hi := 58) u56 (by decide))
                      have F58 := F52.then rfl (FR.rngp (lo := 58) (hi := 58) u56 (by decide))
                      refine wr_iinc (i := 7) (n := 1) (v := x9) (fun e59 => [(7, vi e59), (6, vi e47), (8, vi e47), (0, .ref 56), (1, vi a0), (2, vi a1), (3, vi a2), (4, vi a3), (5, vi z4)]) (nx := 95) (r1 := 0) (r2 := 0) (r3 := 0) rfl rfl (fun _ => rfl) (fun e59 (fe59 : e59 = x9 + 1) => ?_)
                      refine wi_goto (nx := 98) (r1 := 46) (r2 := 0) (r3 := 0) rfl ?_
                      refine wp.lo (lo := [(0, .ref 56), (1, vi a0), (2, vi a1), (3, vi a2), (4, vi a3), (5, vi z4), (6, vi e47), (7, vi e59)]) ⟨rfl, rfl, rfl, rfl, rfl, rfl, rfl, rfl, trivial⟩ rfl ?_
                      exact I10 e47 e59 h56 ⟨g56, F57, F58, (show (-2147483648 ≤ e47 ∧ e47 ≤ 1048576) ∧ (0 ≤ e59 ∧ e59 ≤ 4) by omega)⟩ (show ((4 : Int) + 1 - e59).toNat < ((4 : Int) + 1 - x9).toNat by omega)
              ·
                refine wi_iconst (n := 0) (nx := 6) (r1 := 0) (r2 := 0) (r3 := 0) rfl ?_
                refine wi_ireturn (nx := 7) (r1 := 0) (r2 := 0) (r3 := 0) rfl rfl ?_
                refine wk_i ?_
                refine wi_istore (i := 8) (e := 0) (lo2 := [(8, vi 0), (7, vi (h 19 i26)), (6, vi z18), (0, .ref 56), (1, vi x9), (2, vi a0), (3, vi a1), (4, vi a2), (5, vi a3)]) (nx := 83) (r1 := 0) (r2 := 0) (r3 := 0) rfl rfl ?_
                refine wi_aload_n (i := 0) (x := 56) (nx := 84) (r1 := 0) (r2 := 0) (r3 := 0) rfl rfl ?_
                refine wr_gr (k0 := 56) (x := 3) (nx := 87) (r1 := 6) (r2 := 0) (r3 := 0) rfl rfl (by decide) rfl ⟨rfl, rfl⟩ rfl ?_
                refine wi_iload (i := 8) (e := 0) (nx := 89) (r1 := 0) (r2 := 0) (r3 := 0) rfl rfl ?_
                refine wi_iload (i := 7) (e := h 19 i26) (nx := 91) (r1 := 0) (r2 := 0) (r3 := 0) rfl rfl ?_
                refine wr_V (k0 := 3) (rest := []) (as := [.ref 3, vi 0, vi (h 19 i26)]) (nx := 94) (r1 := 58) (r2 := 2) (r3 := 2) rfl rfl rfl (of_decide_eq_true rfl) rfl rfl (by decide) rfl rfl (of_decide_eq_true rfl) (of_decide_eq_true rfl) ?_
                refine ct_58_3 hcr  g10 0 (h 19 i26) (by omega) (by omega)  (fun z30  (fz30 : -2147483648 ≤ z30 ∧ z30 ≤ 2147483647) => ?_)
                refine wk_i ?_
                refine wi_bipush (n := 16) (nx := 96) (r1 := 0) (r2 := 0) (r3 := 0) rfl (by decide) ?_
                refine wr_mulW (nx := 97) (r1 := 0) (r2 := 0) (r3 := 0) rfl (fun e31 (fe31 : -2147483648 ≤ e31 ∧ e31 ≤ 2147483647) => ?_)
                refine wi_iload (i := 8) (e := 0) (nx := 99) (r1 := 0) (r2 := 0) (r3 := 0) rfl rfl ?_
                refine wi_iconst (n := 1) (nx := 100) (r1 := 0) (r2 := 0) (r3 := 0) rfl ?_
                refine wi_icmp (cd := .ne) (nx := 103) (r1 := 107) (r2 := 0) (r3 := 0) rfl (by omega) (by omega) (fun (q32 : 0 ≠ 1) => ?_) (fun (q32 : ¬ (0 ≠ 1)) => by exfalso; omega)
                refine wi_iconst (n := 0) (nx := 108) (r1 := 0) (r2 := 0) (r3 := 0) rfl ?_
                refine wr_add (nx := 109) (r1 := 0) (r2 := 0) (r3 := 0) rfl (fun e33 (fe33 : e33 = e31 + 0) => ?_)
                refine wi_istore (i := 9) (e := e33) (lo2 := [(9, vi e33), (8, vi 0), (7, vi (h 19 i26)), (6, vi z18), (0, .ref 56), (1, vi x9), (2, vi a0), (3, vi a1), (4, vi a2), (5, vi a3)]) (nx := 111) (r1 := 0) (r2 := 0) (r3 := 0) rfl rfl ?_
                refine wi_iload_n (i := 3) (e := a1) (nx := 112) (r1 := 0) (r2 := 0) (r3 := 0) rfl rfl ?_
                refine wi_aload_n (i := 0) (x := 56) (nx := 113) (r1 := 0) (r2 := 0) (r3 := 0) rfl rfl ?_
                refine wr_gr (k0 := 56) (x := 60) (nx := 116) (r1 := 6) (r2 := 5) (r3 := 0) rfl rfl (by decide) rfl ⟨rfl, rfl⟩ rfl ?_
                refine wi_iload_n (i := 1) (e := x9) (nx := 117) (r1 := 0) (r2 := 0) (r3 := 0) rfl rfl ?_
                have b34 := gi_b (lo := -2147483648) (hi := 2147483647) g 60 i14 rfl
                refine wr_ia (k0 := 60) (a := x9) (f := i14) (x := h 60 i14) (nx := 118) (r1 := 0) (r2 := 0) (r3 := 0) rfl (by decide) rfl (by omega) (by omega) (by decide) (u10 60 i14 (fn_a (by omega) (fn_a (by omega) (fn_a (by omega) fn_0)))) ?_
                refine wr_addW (nx := 119) (r1 := 0) (r2 := 0) (r3 := 0) rfl (fun e35 (fe35 : -2147483648 ≤ e35 ∧ e35 ≤ 2147483647) => ?_)
                refine wi_istore (i := 10) (e := e35) (lo2 := [(10, vi e35), (9, vi e33), (8, vi 0), (7, vi (h 19 i26)), (6, vi z18), (0, .ref 56), (1, vi x9), (2, vi a0), (3, vi a1), (4, vi a2), (5, vi a3)]) (nx := 121) (r1 := 0) (r2 := 0) (r3 := 0) rfl rfl ?_
                refine wi_aload_n (i := 0) (x := 56) (nx := 122) (r1 := 0) (r2 := 0) (r3 := 0) rfl rfl ?_
                refine wr_gr (k0 := 56) (x := 59) (nx := 125) (r1 := 6) (r2 := 4) (r3 := 0) rfl rfl (by decide) rfl ⟨rfl, rfl⟩ rfl ?_
                refine wi_iload_n (i := 1) (e := x9) (nx := 126) (r1 := 0) (r2 := 0) (r3 := 0) rfl rfl ?_
                refine wi_dup2 (nx := 127) (r1 := 0) (r2 := 0) (r3 := 0) rfl rfl rfl ?_
                refine wr_ia (k0 := 59) (a := x9) (f := i14) (x := h10 59 i14) (nx := 128) (r1 := 0) (r2 := 0) (r3 := 0) rfl (by decide) rfl (by omega) (by omega) (by decide) rfl ?_
                refine wi_iconst (n := 1) (nx := 129) (r1 := 0) (r2 := 0) (r3 := 0) rfl ?_
                refine wr_addW (nx := 130) (r1 := 0) (r2 := 0) (r3 := 0) rfl (fun e36 (fe36 : -2147483648 ≤ e36 ∧ e36 ≤ 2147483647) => ?_)
                refine wr_is (k0 := 59) (a := x9) (f := i14) (x := e36) (bl := -2147483648) (bh := 2147483647) (nx := 131) (r1 := 0) (r2 := 0) (r3 := 0) rfl (by decide) rfl (by omega) (by omega) (by decide) g10 rfl (by omega) (fun h37 g37 w37 u37 => ?_)
                have F38 := F11.then rfl (FR.rngp (lo := 59) (hi := 59) u37 (by decide))
                have F39 := u10.then rfl (FR.rngp (lo := 59) (hi := 59) u37 (by decide))
                refine wi_iload (i := 9) (e := e33) (nx := 133) (r1 := 0) (r2 := 0) (r3 := 0) rfl rfl ?_
                refine wi_aload_n (i := 0) (x := 56) (nx := 134) (r1 := 0) (r2 := 0) (r3 := 0) rfl rfl ?_
                refine wi_iload_n (i := 2) (e := a0) (nx := 135) (r1 := 0) (r2 := 0) (r3 := 0) rfl rfl ?_
                refine wi_iconst (n := 1) (nx := 136) (r1 := 0) (r2 := 0) (r3 := 0) rfl ?_
                refine wr_add (nx := 137) (r1 := 0) (r2 := 0) (r3 := 0) rfl (fun e40 (fe40 : e40 = a0 + 1) => ?_)
                refine wi_iload (i := 10) (e := e35) (nx := 139) (r1 := 0) (r2 := 0) (r3 := 0) rfl rfl ?_
                refine wi_iload (i := 7) (e := h 19 i26) (nx := 141) (r1 := 0) (r2 := 0) (r3 := 0) rfl rfl ?_
                refine wi_iload (i := 8) (e := 0) (nx := 143) (r1 := 0) (r2 := 0) (r3 := 0) rfl rfl ?_
                refine wi_iload (i := 5) (e := a3) (nx := 145) (r1 := 0) (r2 := 0) (r3 := 0) rfl rfl ?_
                refine wi_S (rest := [vi (h 19 i26), vi e35, vi e40, .ref 56, vi e33]) (as := [vi 0, vi a3]) (nx := 148) (r1 := 59) (r2 := 18) (r3 := 0) rfl rfl rfl (of_decide_eq_true rfl) rfl rfl (of_decide_eq_true rfl) (of_decide_eq_true rfl) ?_
                refine wi_iload_n (i := 0) (e := 0) (nx := 1) (r1 := 0) (r2 := 0) (r3 := 0) rfl rfl ?_
                refine wi_if (cd := .ne) (nx := 4) (r1 := 10) (r2 := 0) (r3 := 0) rfl (by omega) (fun (q41 : 0 ≠ 0) => by exfalso; omega) (fun (q41 : ¬ (0 ≠ 0)) => ?_)
                refine wi_iload_n (i := 1) (e := a3) (nx := 5) (r1 := 0) (r2 := 0) (r3 := 0) rfl rfl ?_
                refine wi_iconst (n := 1) (nx := 6) (r1 := 0) (r2 := 0) (r3 := 0) rfl ?_
                refine wr_addW (nx := 7) (r1 := 0) (r2 := 0) (r3 := 0) rfl (fun e42 (fe42 : -2147483648 ≤ e42 ∧ e42 ≤ 2147483647) => ?_)
                refine wi_goto (nx := 10) (r1 := 11) (r2 := 0) (r3 := 0) rfl ?_
                refine wi_ireturn (nx := 12) (r1 := 0) (r2 := 0) (r3 := 0) rfl rfl ?_
                refine wk_i ?_
                refine wr_V (k0 := 56) (rest := [vi e33]) (as := [.ref 56, vi e40, vi e35, vi (h 19 i26), vi e42]) (nx := 151) (r1 := 105) (r2 := 4) (r3 := 6) rfl rfl rfl (of_decide_eq_true rfl) rfl rfl (by decide) rfl rfl (of_decide_eq_true rfl) (of_decide_eq_true rfl) ?_
                refine wp_eq (e := d + 2 * (n - 1) + 5) (by omega) ?_
                refine IH (n - 1) (by omega) g37 e40 e35 (h 19 i26) e42 (by omega) (by omega) (by omega) (by omega)  (by omega) (fun h43 z44 g43 u43 (fz44 : -2147483648 ≤ z44 ∧ z44 ≤ 2147483647) => ?_)
                have F45 := F38.then (by decide +kernel) u43
                have F46 := F39.then (by decide +kernel) u43
                refine wk_i ?_
                refine wr_addW (nx := 152) (r1 := 0) (r2 := 0) (r3 := 0) rfl (fun e47 (fe47 : -2147483648 ≤ e47 ∧ e47 ≤ 2147483647) => ?_)
                refine wi_istore (i := 9) (e := e47) (lo2 := [(9, vi e47), (10, vi e35), (8, vi 0), (7, vi (h 19 i26)), (6, vi z18), (0, .ref 56), (1, vi x9), (2, vi a0), (3, vi a1), (4, vi a2), (5, vi a3)]) (nx := 154) (r1 := 0) (r2 := 0) (r3 := 0) rfl rfl ?_
                refine wi_aload_n (i := 0) (x := 56) (nx := 155) (r1 := 0) (r2 := 0) (r3 := 0) rfl rfl ?_
                refine wr_gr (k0 := 56) (x := 59) (nx := 158) (r1 := 6) (r2 := 4) (r3 := 0) rfl rfl (by decide) rfl ⟨rfl, rfl⟩ rfl ?_
                refine wi_iload_n (i := 1) (e := x9) (nx := 159) (r1 := 0) (r2 := 0) (r3 := 0) rfl rfl ?_
                refine wi_dup2 (nx := 160) (r1 := 0) (r2 := 0) (r3 := 0) rfl rfl rfl ?_
                have b48 := gi_b (lo := -2147483648) (hi := 2147483647) g43 59 i14 rfl
                refine wr_ia (k0 := 59) (a := x9) (f := i14) (x := h43 59 i14) (nx := 161) (r1 := 0) (r2 := 0) (r3 := 0) rfl (by decide) rfl (by omega) (by omega) (by decide) rfl ?_
                refine wi_iconst (n := 1) (nx := 162) (r1 := 0) (r2 := 0) (r3 := 0) rfl ?_
                refine wr_subW (nx := 163) (r1 := 0) (r2 := 0) (r3 := 0) rfl (fun e49 (fe49 : -2147483648 ≤ e49 ∧ e49 ≤ 2147483647) => ?_)
                refine wr_is (k0 := 59) (a := x9) (f := i14) (x := e49) (bl := -2147483648) (bh := 2147483647) (nx := 164) (r1 := 0) (r2 := 0) (r3 := 0) rfl (by decide) rfl (by omega) (by omega) (by decide) g43 rfl (by omega) (fun h50 g50 w50 u50 => ?_)
                have F51 := F45.then rfl (FR.rngp (lo := 59) (hi := 59) u50 (by decide))
                have F52 := F46.then rfl (FR.rngp (lo := 59) (hi := 59) u50 (by decide))
                refine wi_iload (i := 9) (e := e47) (nx := 166) (r1 := 0) (r2 := 0) (r3 := 0) rfl rfl ?_
                refine wi_ldc (e := 1048576) (nx := 168) (r1 := 0) (r2 := 1048576) (r3 := 0) rfl rfl (by decide) ?_
                refine wi_S (rest := []) (as := [vi e47, vi 1048576]) (nx := 171) (r1 := 133) (r2 := 18) (r3 := 0) rfl rfl rfl (of_decide_eq_true rfl) rfl rfl (of_decide_eq_true rfl) (of_decide_eq_true rfl) ?_
                refine wi_iload_n (i := 0) (e := e47) (nx := 1) (r1 := 0) (r2 := 0) (r3 := 0) rfl rfl ?_
                refine wi_iload_n (i := 1) (e := 1048576) (nx := 2) (r1 := 0) (r2 := 0) (r3 := 0) rfl rfl ?_
                refine wi_icmp (cd := .gt) (nx := 5) (r1 := 9) (r2 := 0) (r3 := 0) rfl (by omega) (by omega) (fun (q53 : 1048576 < e47) => ?_) (fun (q53 : ¬ (1048576 < e47)) => ?_)
                ·
                  refine wi_iload_n (i := 1) (e := 1048576) (nx := 10) (r1 := 0) (r2 := 0) (r3 := 0) rfl rfl ?_
                  refine wi_ireturn (nx := 11) (r1 := 0) (r2 := 0) (r3 := 0) rfl rfl ?_
                  refine wk_i ?_
                  refine wi_ireturn (nx := 172) (r1 := 0) (r2 := 0) (r3 := 0) rfl rfl ?_
                  refine wk_i ?_
                  refine wi_istore (i := 8) (e := 1048576) (lo2 := [(8, vi 1048576), (0, .ref 56), (1, vi a0), (2, vi a1), (3, vi a2), (4, vi a3), (5, vi z4), (6, vi x8), (7, vi x9)]) (nx := 71) (r1 := 0) (r2 := 0) (r3 := 0) rfl rfl ?_
                  refine wi_iload (i := 8) (e := 1048576) (nx := 73) (r1 := 0) (r2 := 0) (r3 := 0) rfl rfl ?_
                  refine wi_iload (i := 6) (e := x8) (nx := 75) (r1 := 0) (r2 := 0) (r3 := 0) rfl rfl ?_
                  refine wi_icmp (cd := .ge) (nx := 78) (r1 := 92) (r2 := 0) (r3 := 0) rfl (by omega) (by omega) (fun (q54 : x8 ≤ 1048576) => ?_) (fun (q54 : ¬ (x8 ≤ 1048576)) => by exfalso; omega)
                  refine wr_iinc (i := 7) (n := 1) (v := x9) (fun e55 => [(7, vi e55), (8, vi 1048576), (0, .ref 56), (1, vi a0), (2, vi a1), (3, vi a2), (4, vi a3), (5, vi z4), (6, vi x8)]) (nx := 95) (r1 := 0) (r2 := 0) (r3 := 0) rfl rfl (fun _ => rfl) (fun e55 (fe55 : e55 = x9 + 1) => ?_)
                  refine wi_goto (nx := 98) (r1 := 46) (r2 := 0) (r3 := 0) rfl ?_
                  refine wp.lo (lo := [(0, .ref 56), (1, vi a0), (2, vi a1), (3, vi a2), (4, vi a3), (5, vi z4), (6, vi x8), (7, vi e55)]) ⟨rfl, rfl, rfl, rfl, rfl, rfl, rfl, rfl, trivial⟩ rfl ?_
                  exact I10 x8 e55 h50 ⟨g50, F51, F52, (show (-2147483648 ≤ x8 ∧ x8 ≤ 1048576) ∧ (0 ≤ e55 ∧ e55 ≤ 4) by omega)⟩ (show ((4 : Int) + 1 - e55).toNat < ((4 : Int) + 1 - x9).toNat by omega)
                ·
                  refine wi_iload_n (i := 0) (e := e47) (nx := 6) (r1 := 0) (r2 := 0) (r3 := 0) rfl rfl ?_
                  refine wi_goto (nx := 9) (r1 := 10) (r2 := 0) (r3 := 0) rfl ?_
                  refine wi_ireturn (nx := 11) (r1 := 0) (r2 := 0) (r3 := 0) rfl rfl ?_
                  refine wk_i ?_
                  refine wi_ireturn (nx := 172) (r1 := 0) (r2 := 0) (r3 := 0) rfl rfl ?_
                  refine wk_i ?_
                  refine wi_istore (i := 8) (e := e47) (lo2 := [(8, vi e47), (0, .ref 56), (1, vi a0), (2, vi a1), (3, vi a2), (4, vi a3), (5, vi z4), (6, vi x8), (7, vi x9)]) (nx := 71) (r1 := 0) (r2 := 0) (r3 := 0) rfl rfl ?_
                  refine wi_iload (i := 8) (e := e47) (nx := 73) (r1 := 0) (r2 := 0) (r3 := 0) rfl rfl ?_
                  refine wi_iload (i := 6) (e := x8) (nx := 75) (r1 := 0) (r2 := 0) (r3 := 0) rfl rfl ?_
                  refine wi_icmp (cd := .ge) (nx := 78) (r1 := 92) (r2 := 0) (r3 := 0) rfl (by omega) (by omega) (fun (q54 : x8 ≤ e47) => ?_) (fun (q54 : ¬ (x8 ≤ e47)) => ?_)
                  ·
                    refine wr_iinc (i := 7) (n := 1) (v := x9) (fun e55 => [(7, vi e55), (8, vi e47), (0, .ref 56), (1, vi a0), (2, vi a1), (3, vi a2), (4, vi a3), (5, vi z4), (6, vi x8)]) (nx := 95) (r1 := 0) (r2 := 0) (r3 := 0) rfl rfl (fun _ => rfl) (fun e55 (fe55 : e55 = x9 + 1) => ?_)
                    refine wi_goto (nx := 98) (r1 := 46) (r2 := 0) (r3 := 0) rfl ?_
                    refine wp.lo (lo := [(0, .ref 56), (1, vi a0), (2, vi a1), (3, vi a2), (4, vi a3), (5, vi z4), (6, vi x8), (7, vi e55)]) ⟨rfl, rfl, rfl, rfl, rfl, rfl, rfl, rfl, trivial⟩ rfl ?_
                    exact I10 x8 e55 h50 ⟨g50, F51, F52, (show (-2147483648 ≤ x8 ∧ x8 ≤ 1048576) ∧ (0 ≤ e55 ∧ e55 ≤ 4) by omega)⟩ (show ((4 : Int) + 1 - e55).toNat < ((4 : Int) + 1 - x9).toNat by omega)
                  ·
                    refine wi_iload (i := 8) (e := e47) (nx := 80) (r1 := 0) (r2 := 0) (r3 := 0) rfl rfl ?_
                    refine wi_istore (i := 6) (e := e47) (lo2 := [(6, vi e47), (8, vi e47), (0, .ref 56), (1, vi a0), (2, vi a1), (3, vi a2), (4, vi a3), (5, vi z4), (7, vi x9)]) (nx := 82) (r1 := 0) (r2 := 0) (r3 := 0) rfl rfl ?_
                    refine wi_aload_n (i := 0) (x := 56) (nx := 83) (r1 := 0) (r2 := 0) (r3 := 0) rfl rfl ?_
                    refine wr_gr (k0 := 56) (x := 58) (nx := 86) (r1 := 6) (r2 := 3) (r3 := 0) rfl rfl (by decide) rfl ⟨rfl, rfl⟩ rfl ?_
                    refine wi_iload (i := 5) (e := z4) (nx := 88) (r1 := 0) (r2 := 0) (r3 := 0) rfl rfl ?_
                    refine wi_iload (i := 7) (e := x9) (nx := 90) (r1 := 0) (r2 := 0) (r3 := 0) rfl rfl ?_
                    refine wr_i2bA (nx := 91) (r1 := 0) (r2 := 0) (r3 := 0) rfl (fun e55 (fe55 : -128 ≤ e55 ∧ e55 ≤ 127) => ?_)
                    refine wr_bs (k0 := 58) (a := z4) (f := i5) (x := e55) (bl := -128) (bh := 127) (nx := 92) (r1 := 0) (r2 := 0) (r3 := 0) rfl (by decide) rfl (by omega) (by omega) (by omega) (by decide) g50 rfl (by omega) (fun h56 g56 w56 u56 => ?_)
                    have F57 := F51.then rfl (FR.rngp (lo := 58) (hi := 58) u56 (by decide))
                    have F58 := F52.then rfl (FR.rngp (lo := 58) (hi := 58) u56 (by decide))
                    refine wr_iinc (i := 7) (n := 1) (v := x9) (fun e59 => [(7, vi e59), (6, vi e47), (8, vi e47), (0, .ref 56), (1, vi a0), (2, vi a1), (3, vi a2), (4, vi a3), (5, vi z4)]) (nx := 95) (r1 := 0) (r2 := 0) (r3 := 0) rfl rfl (fun _ => rfl) (fun e59 (fe59 : e59 = x9 + 1) => ?_)
                    refine wi_goto (nx := 98) (r1 := 46) (r2 := 0) (r3 := 0) rfl ?_
                    refine wp.lo (lo := [(0, .ref 56), (1, vi a0), (2, vi a1), (3, vi a2), (4, vi a3), (5, vi z4), (6, vi e47), (7, vi e59)]) ⟨rfl, rfl, rfl, rfl, rfl, rfl, rfl, rfl, trivial⟩ rfl ?_
                    exact I10 e47 e59 h56 ⟨g56, F57, F58, (show (-2147483648 ≤ e47 ∧ e47 ≤ 1048576) ∧ (0 ≤ e59 ∧ e59 ≤ 4) by omega)⟩ (show ((4 : Int) + 1 - e59).toNat < ((4 : Int) + 1 - x9).toNat by omega)
            ·
              refine wi_ldc (e := 1048576) (nx := 55) (r1 := 0) (r2 := 1048576) (r3 := 0) rfl rfl (by decide) ?_
              refine wi_ireturn (nx := 56) (r1 := 0) (r2 := 0) (r3 := 0) rfl rfl ?_
              refine wk_i ?_
              refine wi_istore (i := 8) (e := 1048576) (lo2 := [(8, vi 1048576), (0, .ref 56), (1, vi a0), (2, vi a1), (3, vi a2), (4, vi a3), (5, vi z4), (6, vi x8), (7, vi x9)]) (nx := 71) (r1 := 0) (r2 := 0) (r3 := 0) rfl rfl ?_
              refine wi_iload (i := 8) (e := 1048576) (nx := 73) (r1 := 0) (r2 := 0) (r3 := 0) rfl rfl ?_
              refine wi_iload (i := 6) (e := x8) (nx := 75) (r1 := 0) (r2 := 0) (r3 := 0) rfl rfl ?_
              refine wi_icmp (cd := .ge) (nx := 78) (r1 := 92) (r2 := 0) (r3 := 0) rfl (by omega) (by omega) (fun (q26 : x8 ≤ 1048576) => ?_) (fun (q26 : ¬ (x8 ≤ 1048576)) => by exfalso; omega)
              refine wr_iinc (i := 7) (n := 1) (v := x9) (fun e27 => [(7, vi e27), (8, vi 1048576), (0, .ref 56), (1, vi a0), (2, vi a1), (3, vi a2), (4, vi a3), (5, vi z4), (6, vi x8)]) (nx := 95) (r1 := 0) (r2 := 0) (r3 := 0) rfl rfl (fun _ => rfl) (fun e27 (fe27 : e27 = x9 + 1) => ?_)
              refine wi_goto (nx := 98) (r1 := 46) (r2 := 0) (r3 := 0) rfl ?_
              refine wp.lo (lo := [(0, .ref 56), (1, vi a0), (2, vi a1), (3, vi a2), (4, vi a3), (5, vi z4), (6, vi x8), (7, vi e27)]) ⟨rfl, rfl, rfl, rfl, rfl, rfl, rfl, rfl, trivial⟩ rfl ?_
              exact I10 x8 e27 h10 ⟨g10, F11, u10, (show (-2147483648 ≤ x8 ∧ x8 ≤ 1048576) ∧ (0 ≤ e27 ∧ e27 ≤ 4) by omega)⟩ (show ((4 : Int) + 1 - e27).toNat < ((4 : Int) + 1 - x9).toNat by omega)
    ·
      refine wi_aload_n (i := 0) (x := 56) (nx := 32) (r1 := 0) (r2 := 0) (r3 := 0) rfl rfl ?_
      refine wr_gr (k0 := 56) (x := 57) (nx := 35) (r1 := 6) (r2 := 2) (r3 := 0) rfl rfl (by decide) rfl ⟨rfl, rfl⟩ rfl ?_
      refine wi_iload (i := 5) (e := z4) (nx := 37) (r1 := 0) (r2 := 0) (r3 := 0) rfl rfl ?_
      refine wr_ia (k0 := 57) (a := z4) (f := i5) (x := h 57 i5) (nx := 38) (r1 := 0) (r2 := 0) (r3 := 0) rfl (by decide) rfl (by omega) (by omega) (by decide) rfl ?_
      refine wi_ireturn (nx := 39) (r1 := 0) (r2 := 0) (r3 := 0) rfl rfl ?_
      exact k h (h 57 i5) g F0 (by omega)
  ·
    refine wi_iconst (n := 0) (nx := 9) (r1 := 0) (r2 := 0) (r3 := 0) rfl ?_
    refine wi_ireturn (nx := 10) (r1 := 0) (r2 := 0) (r3 := 0) rfl rfl ?_
    exact k h 0 g F0 (by omega)
theorem ct_105_56 {L : Nat} {xs : Nat → Int32} {d b c : Nat} {h : hp} {cr : Nat → Nat → Option Nat} {Q : hp_Q} (hcr : CR cr) (g : GI h) (a0 : Int) (a1 : Int) (a2 : Int) (a3 : Int) (q0_ : 0 ≤ a0 ∧ a0 ≤ 48) (q1_ : -2147483648 ≤ a1 ∧ a1 ≤ 2147483647) (q2_ : -2147483648 ≤ a2 ∧ a2 ≤ 2147483647) (q3_ : -2147483648 ≤ a3 ∧ a3 ≤ 2147483647)  (k : ∀ (h2 : hp) (z0 : Int) , GI h2 → FR [(57, 57, none), (58, 58, none), (59, 59, none)] h h2 → (-2147483648 ≤ z0 ∧ z0 ≤ 2147483647) → Q (.inl (some (vi z0))) (hp_w h2 cr) b c) : wp (md_xa (L, xs)) (d + 101) 105 (0, [(0, .ref 56), (1, vi a0), (2, vi a1), (3, vi a2), (4, vi a3)], [], hp_w h cr, b, c) Q := cr_105_56 hcr 48 g a0 a1 a2 a3 q0_ q1_ q2_ q3_  (by omega) k
