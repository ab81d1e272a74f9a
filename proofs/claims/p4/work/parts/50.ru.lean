-- method 339: Model.runs()I
set_option maxRecDepth 100000 in
set_option maxHeartbeats 100000000 in
theorem ct_339_236 {L : Nat} {xs : Nat → Int32} {d b c : Nat} {h : hp} {cr : Nat → Nat → Option Nat} {Q : hp_Q} (hcr : CR cr)  (g : GI h)   (pp0 : h 238 98 + h 238 99 + h 238 100 + h 238 101 + h 238 102 + h 238 106 = h 238 73) (pp1 : h 238 73 ≤ h 238 2) (pp2 : h 238 119 ≤ h 238 67) (pp3 : h 238 69 ≤ h 238 5) (pp4 : h 238 2 ≤ 12 * h 238 5) (xq0 : WP (h 253) (h 236 42) (h 236 44)) (k : ∀ (h2 : hp) (z0 : Int) , GI h2 → FR [(246, 246, none), (248, 248, none), (249, 249, none), (250, 250, none), (251, 251, none), (252, 252, none), (236, 236, some (28, 28)), (236, 236, some (32, 32)), (236, 236, some (45, 45)), (238, 238, some (31, 53)), (238, 238, some (43, 54)), (238, 238, some (55, 66)), (238, 238, some (67, 67)), (238, 238, some (68, 68)), (238, 238, some (69, 69)), (238, 238, some (70, 70)), (238, 238, some (71, 71)), (238, 238, some (72, 72)), (238, 238, some (73, 73)), (238, 238, some (74, 79)), (238, 238, some (80, 85)), (238, 238, some (86, 91)), (238, 238, some (92, 97)), (238, 238, some (98, 98)), (238, 238, some (99, 99)), (238, 238, some (100, 100)), (238, 238, some (101, 101)), (238, 238, some (102, 102)), (238, 238, some (103, 105)), (238, 238, some (106, 106)), (238, 238, some (107, 118)), (238, 238, some (119, 119)), (238, 238, some (120, 196)), (238, 238, some (121, 197)), (238, 238, some (122, 198)), (238, 238, some (123, 199)), (247, 247, some (0, 0)), (247, 247, some (1, 1)), (247, 247, some (2, 2)), (247, 247, some (3, 3)), (255, 255, some (0, 0)), (255, 255, some (1, 1)), (256, 256, some (0, 0)), (256, 256, some (1, 1))] h h2 → (0 ≤ z0 ∧ z0 ≤ 100) → (h2 238 98 + h2 238 99 + h2 238 100 + h2 238 101 + h2 238 102 + h2 238 106 = h2 238 73) → (h2 238 73 ≤ h2 238 2) → (h2 238 119 ≤ h2 238 67) → (h2 238 69 ≤ h2 238 5) → (h2 238 2 ≤ 12 * h2 238 5) → Q (.inl (some (vi z0))) (hp_w h2 cr) b c) : wp (md_xa (L, xs)) (d + 7) 339 (0, [(0, .ref 236)], [], hp_w h cr, b, c) Q := by
  have F0 : FR [(246, 246, none), (248, 248, none), (249, 249, none), (250, 250, none), (251, 251, none), (252, 252, none), (236, 236, some (28, 28)), (236, 236, some (32, 32)), (236, 236, some (45, 45)), (238, 238, some (31, 53)), (238, 238, some (43, 54)), (238, 238, some (55, 66)), (238, 238, some (67, 67)), (238, 238, some (68, 68)), (238, 238, some (69, 69)), (238, 238, some (70, 70)), (238, 238, some (71, 71)), (238, 238, some (72, 72)), (238, 238, some (73, 73)), (238, 238, some (74, 79)), (238, 238, some (80, 85)), (238, 238, some (86, 91)), (238, 238, some (92, 97)), (238, 238, some (98, 98)), (238, 238, some (99, 99)), (238, 238, some (100, 100)), (238, 238, some (101, 101)), (238, 238, some (102, 102)), (238, 238, some (103, 105)), (238, 238, some (106, 106)), (238, 238, some (107, 118)), (238, 238, some (119, 119)), (238, 238, some (120, 196)), (238, 238, some (121, 197)), (238, 238, some (122, 198)), (238, 238, some (123, 199)), (247, 247, some (0, 0)), (247, 247, some (1, 1)), (247, 247, some (2, 2)), (247, 247, some (3, 3)), (255, 255, some (0, 0)), (255, 255, some (1, 1)), (256, 256, some (0, 0)), (256, 256, some (1, 1))] h h := FR.refl
  have b1 := gi_b (lo := 0) (hi := 6) g 238 98 rfl
  have b2 := gi_b (lo := 0) (hi := 6) g 238 99 rfl
  have b3 := gi_b (lo := 0) (hi := 6) g 238 100 rfl
  have b4 := gi_b (lo := 0) (hi := 6) g 238 101 rfl
  have b5 := gi_b (lo := 0) (hi := 3) g 238 102 rfl
  have b6 := gi_b (lo := 0) (hi := 12) g 238 106 rfl
  have b7 := gi_b (lo := 0) (hi := 12) g 238 73 rfl
  have b8 := gi_b (lo := 0) (hi := 12) g 238 2 rfl
  have b9 := gi_b (lo := 0) (hi := 9999) g 238 119 rfl
  have b10 := gi_b (lo := 0) (hi := 9999) g 238 67 rfl
  have b11 := gi_b (lo := 0) (hi := 9) g 238 69 rfl
  have b12 := gi_b (lo := 0) (hi := 9) g 238 5 rfl
  refine wi_iconst (n := 0) (nx := 1) (r1 := 0) (r2 := 0) (r3 := 0) rfl ?_
  refine wi_istore_n (i := 1) (e := 0) (lo2 := [(1, vi 0), (0, .ref 236)]) (nx := 2) (r1 := 0) (r2 := 0) (r3 := 0) rfl rfl ?_
  refine wi_iconst (n := 0) (nx := 3) (r1 := 0) (r2 := 0) (r3 := 0) rfl ?_
  refine wi_istore_n (i := 2) (e := 0) (lo2 := [(2, vi 0), (1, vi 0), (0, .ref 236)]) (nx := 4) (r1 := 0) (r2 := 0) (r3 := 0) rfl rfl ?_
  refine wi_iconst (n := 0) (nx := 5) (r1 := 0) (r2 := 0) (r3 := 0) rfl ?_
  refine wi_istore_n (i := 3) (e := 0) (lo2 := [(3, vi 0), (2, vi 0), (1, vi 0), (0, .ref 236)]) (nx := 6) (r1 := 0) (r2 := 0) (r3 := 0) rfl rfl ?_
  refine wi_iconst (n := 1) (nx := 7) (r1 := 0) (r2 := 0) (r3 := 0) rfl ?_
  refine wi_istore (i := 4) (e := 1) (lo2 := [(4, vi 1), (3, vi 0), (2, vi 0), (1, vi 0), (0, .ref 236)]) (nx := 9) (r1 := 0) (r2 := 0) (r3 := 0) rfl rfl ?_
  have b18 := gi_b (lo := 0) (hi := 80) g 236 42 rfl
  have b19 := gi_b (lo := 0) (hi := 79) g 255 0 rfl
  have b20 := gi_b (lo := -1) (hi := 999) g 256 0 rfl
  have b21 := gi_b (lo := 0) (hi := 79) g 255 1 rfl
  have b22 := gi_b (lo := -1) (hi := 999) g 256 1 rfl
  refine wp.lo (lo := [(0, .ref 236), (1, vi 0), (2, vi 0), (3, vi 0), (4, vi 1)]) ⟨rfl, rfl, rfl, rfl, rfl, trivial⟩ rfl ?_
  refine wl_4 (fun x13 x14 x15 x16 h17 => GI h17 ∧ FR [(246, 246, none), (248, 248, none), (249, 249, none), (250, 250, none), (251, 251, none), (252, 252, none), (236, 236, some (28, 28)), (236, 236, some (32, 32)), (236, 236, some (45, 45)), (238, 238, some (31, 53)), (238, 238, some (43, 54)), (238, 238, some (55, 66)), (238, 238, some (67, 67)), (238, 238, some (68, 68)), (238, 238, some (69, 69)), (238, 238, some (70, 70)), (238, 238, some (71, 71)), (238, 238, some (72, 72)), (238, 238, some (73, 73)), (238, 238, some (74, 79)), (238, 238, some (80, 85)), (238, 238, some (86, 91)), (238, 238, some (92, 97)), (238, 238, some (98, 98)), (238, 238, some (99, 99)), (238, 238, some (100, 100)), (238, 238, some (101, 101)), (238, 238, some (102, 102)), (238, 238, some (103, 105)), (238, 238, some (106, 106)), (238, 238, some (107, 118)), (238, 238, some (119, 119)), (238, 238, some (120, 196)), (238, 238, some (121, 197)), (238, 238, some (122, 198)), (238, 238, some (123, 199)), (247, 247, some (0, 0)), (247, 247, some (1, 1)), (247, 247, some (2, 2)), (247, 247, some (3, 3)), (255, 255, some (0, 0)), (255, 255, some (1, 1)), (256, 256, some (0, 0)), (256, 256, some (1, 1))] h h17 ∧ FR [(246, 246, none), (248, 248, none), (249, 249, none), (250, 250, none), (251, 251, none), (252, 252, none), (236, 236, some (28, 28)), (236, 236, some (32, 32)), (236, 236, some (45, 45)), (238, 238, some (31, 53)), (238, 238, some (43, 54)), (238, 238, some (55, 66)), (238, 238, some (67, 67)), (238, 238, some (68, 68)), (238, 238, some (69, 69)), (238, 238, some (70, 70)), (238, 238, some (71, 71)), (238, 238, some (72, 72)), (238, 238, some (73, 73)), (238, 238, some (74, 79)), (238, 238, some (80, 85)), (238, 238, some (86, 91)), (238, 238, some (92, 97)), (238, 238, some (98, 98)), (238, 238, some (99, 99)), (238, 238, some (100, 100)), (238, 238, some (101, 101)), (238, 238, some (102, 102)), (238, 238, some (103, 105)), (238, 238, some (106, 106)), (238, 238, some (107, 118)), (238, 238, some (119, 119)), (238, 238, some (120, 196)), (238, 238, some (121, 197)), (238, 238, some (122, 198)), (238, 238, some (123, 199)), (247, 247, some (0, 0)), (247, 247, some (1, 1)), (247, 247, some (2, 2)), (247, 247, some (3, 3)), (255, 255, some (0, 0)), (255, 255, some (1, 1)), (256, 256, some (0, 0)), (256, 256, some (1, 1))] h h17 ∧ ((0 ≤ x13 ∧ x13 ≤ 100) ∧ (0 ≤ x14 ∧ x14 ≤ 2) ∧ (0 ≤ x15 ∧ x15 ≤ 80) ∧ (0 ≤ x16 ∧ x16 ≤ 1) ∧ (x15 ≤ (h17 236 42)) ∧ ((h17 238 98) + (h17 238 99) + (h17 238 100) + (h17 238 101) + (h17 238 102) + (h17 238 106) = (h17 238 73)) ∧ ((h17 238 73) ≤ (h17 238 2)) ∧ ((h17 238 119) ≤ (h17 238 67)) ∧ ((h17 238 69) ≤ (h17 238 5)) ∧ ((h17 238 2) ≤ 12 * (h17 238 5))) ∧ (BG (h 253) (h17 255) (h17 256) x14 x15)) (fun x13 x14 x15 x16 h17 => (muS x16 x14 x15 (h17 255 0) (h17 256 0) (h17 255 1) (h17 256 1)).toNat) (fun x13 x14 x15 x16 h17 => (9, [(0, .ref 236), (1, vi x13), (2, vi x14), (3, vi x15), (4, vi x16)], [], hp_w h17 cr, b, c)) ?_ 0 0 0 1 h ⟨g, F0, FR.refl, (show (0 ≤ 0 ∧ 0 ≤ 100) ∧ (0 ≤ 0 ∧ 0 ≤ 2) ∧ (0 ≤ 0 ∧ 0 ≤ 80) ∧ (0 ≤ 1 ∧ 1 ≤ 1) ∧ (0 ≤ (h 236 42)) ∧ ((h 238 98) + (h 238 99) + (h 238 100) + (h 238 101) + (h 238 102) + (h 238 106) = (h 238 73)) ∧ ((h 238 73) ≤ (h 238 2)) ∧ ((h 238 119) ≤ (h 238 67)) ∧ ((h 238 69) ≤ (h 238 5)) ∧ ((h 238 2) ≤ 12 * (h 238 5)) by omega), BG.zero⟩
  intro x13 x14 x15 x16 h17 ⟨g17, F23, u17, f17, X17_0⟩ I17
  have b24 := gi_b (lo := 0) (hi := 79) g17 255 0 rfl
  have b25 := gi_b (lo := -1) (hi := 999) g17 256 0 rfl
  have b26 := gi_b (lo := 0) (hi := 79) g17 255 1 rfl
  have b27 := gi_b (lo := -1) (hi := 999) g17 256 1 rfl
  have e28 : h17 236 42 = h 236 42 := (u17 236 42 rfl)
  have b29 := gi_b (lo := 0) (hi := 6) g17 238 98 rfl
  have b30 := gi_b (lo := 0) (hi := 6) g17 238 99 rfl
  have b31 := gi_b (lo := 0) (hi := 6) g17 238 100 rfl
  have b32 := gi_b (lo := 0) (hi := 6) g17 238 101 rfl
  have b33 := gi_b (lo := 0) (hi := 3) g17 238 102 rfl
  have b34 := gi_b (lo := 0) (hi := 12) g17 238 106 rfl
  have b35 := gi_b (lo := 0) (hi := 12) g17 238 73 rfl
  have e36 : h17 238 2 = h 238 2 := (u17 238 2 rfl)
  have b37 := gi_b (lo := 0) (hi := 9999) g17 238 119 rfl
  have b38 := gi_b (lo := 0) (hi := 9999) g17 238 67 rfl
  have b39 := gi_b (lo := 0) (hi := 9) g17 238 69 rfl
  have e40 : h17 238 5 = h 238 5 := (u17 238 5 rfl)
  refine wi_iload (i := 4) (e := x16) (nx := 11) (r1 := 0) (r2 := 0) (r3 := 0) rfl rfl ?_
  refine wi_if (cd := .eq) (nx := 14) (r1 := 181) (r2 := 0) (r3 := 0) rfl (by omega) (fun (q41 : x16 = 0) => ?_) (fun (q41 : ¬ (x16 = 0)) => ?_)
  ·
    refine wi_iload_n (i := 1) (e := x13) (nx := 182) (r1 := 0) (r2 := 0) (r3 := 0) rfl rfl ?_
    refine wi_ireturn (nx := 183) (r1 := 0) (r2 := 0) (r3 := 0) rfl rfl ?_
    exact k h17 x13 g17 F23 (by omega) (show (h17 238 98) + (h17 238 99) + (h17 238 100) + (h17 238 101) + (h17 238 102) + (h17 238 106) = (h17 238 73) by omega) (show (h17 238 73) ≤ (h17 238 2) by omega) (show (h17 238 119) ≤ (h17 238 67) by omega) (show (h17 238 69) ≤ (h17 238 5) by omega) (show (h17 238 2) ≤ 12 * (h17 238 5) by omega)
  ·
    refine wi_iload_n (i := 3) (e := x15) (nx := 15) (r1 := 0) (r2 := 0) (r3 := 0) rfl rfl ?_
    refine wi_aload_n (i := 0) (x := 236) (nx := 16) (r1 := 0) (r2 := 0) (r3 := 0) rfl rfl ?_
    refine wr_gi0 (k0 := 236) (x := h 236 42) (nx := 19) (r1 := 11) (r2 := 42) (r3 := 0) rfl rfl (by decide) rfl ⟨rfl, rfl⟩ rfl (u17 236 42 rfl) ?_
    refine wi_icmp (cd := .ge) (nx := 22) (r1 := 181) (r2 := 0) (r3 := 0) rfl (by omega) (by omega) (fun (q42 : (h 236 42) ≤ x15) => ?_) (fun (q42 : ¬ ((h 236 42) ≤ x15)) => ?_)
    ·
      refine wi_iload_n (i := 1) (e := x13) (nx := 182) (r1 := 0) (r2 := 0) (r3 := 0) rfl rfl ?_
      refine wi_ireturn (nx := 183) (r1 := 0) (r2 := 0) (r3 := 0) rfl rfl ?_
      exact k h17 x13 g17 F23 (by omega) (show (h17 238 98) + (h17 238 99) + (h17 238 100) + (h17 238 101) + (h17 238 102) + (h17 238 106) = (h17 238 73) by omega) (show (h17 238 73) ≤ (h17 238 2) by omega) (show (h17 238 119) ≤ (h17 238 67) by omega) (show (h17 238 69) ≤ (h17 238 5) by omega) (show (h17 238 2) ≤ 12 * (h17 238 5) by omega)
    ·
      refine wi_iload_n (i := 1) (e := x13) (nx := 23) (r1 := 0) (r2 := 0) (r3 := 0) rfl rfl ?_
      refine wi_bipush (n := 100) (nx := 25) (r1 := 0) (r2 := 0) (r3 := 0) rfl (by decide) ?_
      refine wi_icmp (cd := .ge) (nx := 28) (r1 := 181) (r2 := 0) (r3 := 0) rfl (by omega) (by omega) (fun (q43 : 100 ≤ x13) => ?_) (fun (q43 : ¬ (100 ≤ x13)) => ?_)
      ·
        refine wi_iload_n (i := 1) (e := x13) (nx := 182) (r1 := 0) (r2 := 0) (r3 := 0) rfl rfl ?_
        refine wi_ireturn (nx := 183) (r1 := 0) (r2 := 0) (r3 := 0) rfl rfl ?_
        exact k h17 x13 g17 F23 (by omega) (show (h17 238 98) + (h17 238 99) + (h17 238 100) + (h17 238 101) + (h17 238 102) + (h17 238 106) = (h17 238 73) by omega) (show (h17 238 73) ≤ (h17 238 2) by omega) (show (h17 238 119) ≤ (h17 238 67) by omega) (show (h17 238 69) ≤ (h17 238 5) by omega) (show (h17 238 2) ≤ 12 * (h17 238 5) by omega)
      ·
        rcases (show x14 = 0 ∨ x14 = 1 ∨ x14 = 2 by omega) with q44 | q44 | q44
        ·
          rw [q44]
          refine wi_aload_n (i := 0) (x := 236) (nx := 29) (r1 := 0) (r2 := 0) (r3 := 0) rfl rfl ?_
          refine wr_gr (k0 := 236) (x := 253) (nx := 32) (r1 := 11) (r2 := 37) (r3 := 0) rfl rfl (by decide) rfl ⟨rfl, rfl⟩ rfl ?_
          refine wi_iload_n (i := 3) (e := x15) (nx := 33) (r1 := 0) (r2 := 0) (r3 := 0) rfl rfl ?_
          obtain ⟨i45, ei45⟩ : ∃ q : Nat, x15 = (q : Int) := ⟨(x15).toNat, by omega⟩
          have b46 := gi_b (lo := 0) (hi := 8) g 253 i45 rfl
          refine wr_ia (k0 := 253) (a := x15) (f := i45) (x := h 253 i45) (nx := 34) (r1 := 0) (r2 := 0) (r3 := 0) rfl (by decide) rfl (by omega) (by omega) (by decide) (u17 253 i45 (fo_nk rfl)) ?_
          refine wi_bipush (n := 7) (nx := 36) (r1 := 0) (r2 := 0) (r3 := 0) rfl (by decide) ?_
          refine wi_icmp (cd := .ne) (nx := 39) (r1 := 67) (r2 := 0) (r3 := 0) rfl (by omega) (by omega) (fun (q47 : (h 253 i45) ≠ 7) => ?_) (fun (q47 : ¬ ((h 253 i45) ≠ 7)) => ?_)
          ·
            refine wi_aload_n (i := 0) (x := 236) (nx := 68) (r1 := 0) (r2 := 0) (r3 := 0) rfl rfl ?_
            refine wr_gr (k0 := 236) (x := 253) (nx := 71) (r1 := 11) (r2 := 37) (r3 := 0) rfl rfl (by decide) rfl ⟨rfl, rfl⟩ rfl ?_
            refine wi_iload_n (i := 3) (e := x15) (nx := 72) (r1 := 0) (r2 := 0) (r3 := 0) rfl rfl ?_
            refine wr_ia (k0 := 253) (a := x15) (f := i45) (x := h 253 i45) (nx := 73) (r1 := 0) (r2 := 0) (r3 := 0) rfl (by decide) rfl (by omega) (by omega) (by decide) (u17 253 i45 (fo_nk rfl)) ?_
            refine wi_bipush (n := 8) (nx := 75) (r1 := 0) (r2 := 0) (r3 := 0) rfl (by decide) ?_
            refine wi_icmp (cd := .ne) (nx := 78) (r1 := 149) (r2 := 0) (r3 := 0) rfl (by omega) (by omega) (fun (q48 : (h 253 i45) ≠ 8) => ?_) (fun (q48 : ¬ ((h 253 i45) ≠ 8)) => ?_)
            ·
              refine wi_aload_n (i := 0) (x := 236) (nx := 150) (r1 := 0) (r2 := 0) (r3 := 0) rfl rfl ?_
              refine wi_aload_n (i := 0) (x := 236) (nx := 151) (r1 := 0) (r2 := 0) (r3 := 0) rfl rfl ?_
              refine wr_gr (k0 := 236) (x := 253) (nx := 154) (r1 := 11) (r2 := 37) (r3 := 0) rfl rfl (by decide) rfl ⟨rfl, rfl⟩ rfl ?_
              refine wi_iload_n (i := 3) (e := x15) (nx := 155) (r1 := 0) (r2 := 0) (r3 := 0) rfl rfl ?_
              refine wr_ia (k0 := 253) (a := x15) (f := i45) (x := h 253 i45) (nx := 156) (r1 := 0) (r2 := 0) (r3 := 0) rfl (by decide) rfl (by omega) (by omega) (by decide) (u17 253 i45 (fo_nk rfl)) ?_
              refine wi_aload_n (i := 0) (x := 236) (nx := 157) (r1 := 0) (r2 := 0) (r3 := 0) rfl rfl ?_
              refine wr_gr (k0 := 236) (x := 254) (nx := 160) (r1 := 11) (r2 := 38) (r3 := 0) rfl rfl (by decide) rfl ⟨rfl, rfl⟩ rfl ?_
              refine wi_iload_n (i := 3) (e := x15) (nx := 161) (r1 := 0) (r2 := 0) (r3 := 0) rfl rfl ?_
              have b49 := gi_b (lo := 0) (hi := 999) g 254 i45 rfl
              refine wr_ia (k0 := 254) (a := x15) (f := i45) (x := h 254 i45) (nx := 162) (r1 := 0) (r2 := 0) (r3 := 0) rfl (by decide) rfl (by omega) (by omega) (by decide) (u17 254 i45 (fo_nk rfl)) ?_
              refine wr_V (k0 := 236) (rest := []) (as := [.ref 236, vi (h 253 i45), vi (h 254 i45)]) (nx := 165) (r1 := 340) (r2 := 2) (r3 := 11) rfl rfl rfl (of_decide_eq_true rfl) rfl rfl (by decide) rfl rfl (of_decide_eq_true rfl) (of_decide_eq_true rfl) ?_
              refine ct_340_236 hcr  g17 (h 253 i45) (h 254 i45) (by omega) (by omega) (show (h17 238 98) + (h17 238 99) + (h17 238 100) + (h17 238 101) + (h17 238 102) + (h17 238 106) = (h17 238 73) by omega) (show (h17 238 73) ≤ (h17 238 2) by omega) (show (h17 238 119) ≤ (h17 238 67) by omega) (show (h17 238 69) ≤ (h17 238 5) by omega) (show (h17 238 2) ≤ 12 * (h17 238 5) by omega) (fun h50 z51 g50 u50 (fz51 : 0 ≤ z51 ∧ z51 ≤ 1) m50_0 (p50_0 : (h50 238 98) + (h50 238 99) + (h50 238 100) + (h50 238 101) + (h50 238 102) + (h50 238 106) = (h50 238 73)) (p50_1 : (h50 238 73) ≤ (h50 238 2)) (p50_2 : (h50 238 119) ≤ (h50 238 67)) (p50_3 : (h50 238 69) ≤ (h50 238 5)) (p50_4 : (h50 238 2) ≤ 12 * (h50 238 5)) => ?_)
              have F52 := F23.then (by decide +kernel) u50
              have F53 := u17.then (by decide +kernel) u50
              have b54 := gi_b (lo := 0) (hi := 6) g50 238 98 rfl
              have b55 := gi_b (lo := 0) (hi := 6) g50 238 99 rfl
              have b56 := gi_b (lo := 0) (hi := 6) g50 238 100 rfl
              have b57 := gi_b (lo := 0) (hi := 6) g50 238 101 rfl
              have b58 := gi_b (lo := 0) (hi := 3) g50 238 102 rfl
              have b59 := gi_b (lo := 0) (hi := 12) g50 238 106 rfl
              have b60 := gi_b (lo := 0) (hi := 12) g50 238 73 rfl
              have e61 : h50 238 2 = h 238 2 := ((u50 238 2 rfl).trans (u17 238 2 rfl))
              have b62 := gi_b (lo := 0) (hi := 9999) g50 238 119 rfl
              have b63 := gi_b (lo := 0) (hi := 9999) g50 238 67 rfl
              have b64 := gi_b (lo := 0) (hi := 9) g50 238 69 rfl
              have e65 : h50 238 5 = h 238 5 := ((u50 238 5 rfl).trans (u17 238 5 rfl))
              refine wk_i ?_
              refine wi_istore (i := 4) (e := z51) (lo2 := [(4, vi z51), (0, .ref 236), (1, vi x13), (2, vi 0), (3, vi x15)]) (nx := 167) (r1 := 0) (r2 := 0) (r3 := 0) rfl rfl ?_
              refine wi_iload_n (i := 1) (e := x13) (nx := 168) (r1 := 0) (r2 := 0) (r3 := 0) rfl rfl ?_
              refine wi_iload (i := 4) (e := z51) (nx := 170) (r1 := 0) (r2 := 0) (r3 := 0) rfl rfl ?_
              refine wi_S (rest := [vi x13]) (as := [vi z51]) (nx := 173) (r1 := 207) (r2 := 17) (r3 := 0) rfl rfl rfl (of_decide_eq_true rfl) rfl rfl (of_decide_eq_true rfl) (of_decide_eq_true rfl) ?_
              refine wi_iload_n (i := 0) (e := z51) (nx := 1) (r1 := 0) (r2 := 0) (r3 := 0) rfl rfl ?_
              refine wi_if (cd := .eq) (nx := 4) (r1 := 8) (r2 := 0) (r3 := 0) rfl (by omega) (fun (q66 : z51 = 0) => ?_) (fun (q66 : ¬ (z51 = 0)) => ?_)
              ·
                have f67 : 0 ≤ (h 253 i45) ∧ (h 253 i45) ≤ 5 := m50_0 (by omega)
                refine wi_iconst (n := 0) (nx := 9) (r1 := 0) (r2 := 0) (r3 := 0) rfl ?_
                refine wi_ireturn (nx := 10) (r1 := 0) (r2 := 0) (r3 := 0) rfl rfl ?_
                refine wk_i ?_
                refine wr_add (nx := 174) (r1 := 0) (r2 := 0) (r3 := 0) rfl (fun e68 (fe68 : e68 = x13 + 0) => ?_)
                refine wi_istore_n (i := 1) (e := e68) (lo2 := [(1, vi e68), (4, vi z51), (0, .ref 236), (2, vi 0), (3, vi x15)]) (nx := 175) (r1 := 0) (r2 := 0) (r3 := 0) rfl rfl ?_
                refine wr_iinc (i := 3) (n := 1) (v := x15) (fun e69 => [(3, vi e69), (1, vi e68), (4, vi z51), (0, .ref 236), (2, vi 0)]) (nx := 178) (r1 := 0) (r2 := 0) (r3 := 0) rfl rfl (fun _ => rfl) (fun e69 (fe69 : e69 = x15 + 1) => ?_)
                refine wi_goto (nx := 181) (r1 := 9) (r2 := 0) (r3 := 0) rfl ?_
                have e70 : h50 236 42 = h 236 42 := ((u50 236 42 rfl).trans (u17 236 42 rfl))
                have e71 : h50 255 0 = h17 255 0 := (u50 255 0 rfl)
                have e72 : h50 256 0 = h17 256 0 := (u50 256 0 rfl)
                have e73 : h50 255 1 = h17 255 1 := (u50 255 1 rfl)
                have e74 : h50 256 1 = h17 256 1 := (u50 256 1 rfl)
                refine wp.lo (lo := [(0, .ref 236), (1, vi e68), (2, vi 0), (3, vi e69), (4, vi z51)]) ⟨rfl, rfl, rfl, rfl, rfl, trivial⟩ rfl ?_
                have q75 : h50 255 = h17 255 := funext (fun i => (u50 255 i (fo_no_ok (by decide) i)))
                have q76 : h50 256 = h17 256 := funext (fun i => (u50 256 i (fo_no_ok (by decide) i)))
                have c77 : h17 253 i45 = h 253 i45 := (u17 253 i45 (fo_nk rfl))
                exact I17 e68 0 e69 z51 h50 ⟨g50, F52, F53, (show (0 ≤ e68 ∧ e68 ≤ 100) ∧ (0 ≤ 0 ∧ 0 ≤ 2) ∧ (0 ≤ e69 ∧ e69 ≤ 80) ∧ (0 ≤ z51 ∧ z51 ≤ 1) ∧ (e69 ≤ (h50 236 42)) ∧ ((h50 238 98) + (h50 238 99) + (h50 238 100) + (h50 238 101) + (h50 238 102) + (h50 238 106) = (h50 238 73)) ∧ ((h50 238 73) ≤ (h50 238 2)) ∧ ((h50 238 119) ≤ (h50 238 67)) ∧ ((h50 238 69) ≤ (h50 238 5)) ∧ ((h50 238 2) ≤ 12 * (h50 238 5)) by omega), (by rw [q75, q76]; exact BG.com X17_0 (by omega) (by rw [show (x15).toNat = i45 by omega]; omega) (by rw [show (x15).toNat = i45 by omega]; omega) (by omega) (by omega))⟩ (show (muS z51 0 e69 (h50 255 0) (h50 256 0) (h50 255 1) (h50 256 1)).toNat < (muS x16 x14 x15 (h17 255 0) (h17 256 0) (h17 255 1) (h17 256 1)).toNat by (unfold muS; (repeat' split) <;> omega))
              ·
                refine wi_iconst (n := 1) (nx := 5) (r1 := 0) (r2 := 0) (r3 := 0) rfl ?_
                refine wi_goto (nx := 8) (r1 := 9) (r2 := 0) (r3 := 0) rfl ?_
                refine wi_ireturn (nx := 10) (r1 := 0) (r2 := 0) (r3 := 0) rfl rfl ?_
                refine wk_i ?_
                refine wr_add (nx := 174) (r1 := 0) (r2 := 0) (r3 := 0) rfl (fun e67 (fe67 : e67 = x13 + 1) => ?_)
                refine wi_istore_n (i := 1) (e := e67) (lo2 := [(1, vi e67), (4, vi z51), (0, .ref 236), (2, vi 0), (3, vi x15)]) (nx := 175) (r1 := 0) (r2 := 0) (r3 := 0) rfl rfl ?_
                refine wr_iinc (i := 3) (n := 1) (v := x15) (fun e68 => [(3, vi e68), (1, vi e67), (4, vi z51), (0, .ref 236), (2, vi 0)]) (nx := 178) (r1 := 0) (r2 := 0) (r3 := 0) rfl rfl (fun _ => rfl) (fun e68 (fe68 : e68 = x15 + 1) => ?_)
                refine wi_goto (nx := 181) (r1 := 9) (r2 := 0) (r3 := 0) rfl ?_
                have e69 : h50 236 42 = h 236 42 := ((u50 236 42 rfl).trans (u17 236 42 rfl))
                have e70 : h50 255 0 = h17 255 0 := (u50 255 0 rfl)
                have e71 : h50 256 0 = h17 256 0 := (u50 256 0 rfl)
                have e72 : h50 255 1 = h17 255 1 := (u50 255 1 rfl)
                have e73 : h50 256 1 = h17 256 1 := (u50 256 1 rfl)
                refine wp.lo (lo := [(0, .ref 236), (1, vi e67), (2, vi 0), (3, vi e68), (4, vi z51)]) ⟨rfl, rfl, rfl, rfl, rfl, trivial⟩ rfl ?_
                have q74 : h50 255 = h17 255 := funext (fun i => (u50 255 i (fo_no_ok (by decide) i)))
                have q75 : h50 256 = h17 256 := funext (fun i => (u50 256 i (fo_no_ok (by decide) i)))
                have c76 : h17 253 i45 = h 253 i45 := (u17 253 i45 (fo_nk rfl))
                exact I17 e67 0 e68 z51 h50 ⟨g50, F52, F53, (show (0 ≤ e67 ∧ e67 ≤ 100) ∧ (0 ≤ 0 ∧ 0 ≤ 2) ∧ (0 ≤ e68 ∧ e68 ≤ 80) ∧ (0 ≤ z51 ∧ z51 ≤ 1) ∧ (e68 ≤ (h50 236 42)) ∧ ((h50 238 98) + (h50 238 99) + (h50 238 100) + (h50 238 101) + (h50 238 102) + (h50 238 106) = (h50 238 73)) ∧ ((h50 238 73) ≤ (h50 238 2)) ∧ ((h50 238 119) ≤ (h50 238 67)) ∧ ((h50 238 69) ≤ (h50 238 5)) ∧ ((h50 238 2) ≤ 12 * (h50 238 5)) by omega), (by rw [q74, q75]; exact BG.com X17_0 (by omega) (by rw [show (x15).toNat = i45 by omega]; omega) (by rw [show (x15).toNat = i45 by omega]; omega) (by omega) (by omega))⟩ (show (muS z51 0 e68 (h50 255 0) (h50 256 0) (h50 255 1) (h50 256 1)).toNat < (muS x16 x14 x15 (h17 255 0) (h17 256 0) (h17 255 1) (h17 256 1)).toNat by (unfold muS; (repeat' split) <;> omega))
            ·
              have c50 : h17 253 i45 = h 253 i45 := (u17 253 i45 (fo_nk rfl))
              have d498 : h 253 (x15).toNat = 8 := by rw [show (x15).toNat = i45 by omega]; omega
              have d49d := dep_8 d498
              have d49w := xq0.2.1 ((x15).toNat + 1) (by omega)
              have d49x := X17_0.1
              exfalso; omega
          ·
            have c49 : h17 253 i45 = h 253 i45 := (u17 253 i45 (fo_nk rfl))
            have d487 : h 253 (x15).toNat = 7 := by rw [show (x15).toNat = i45 by omega]; omega
            have d48d := dep_7 d487
            have d48w := xq0.2.1 ((x15).toNat + 1) (by omega)
            have d48x := X17_0.1
            refine wi_aload_n (i := 0) (x := 236) (nx := 40) (r1 := 0) (r2 := 0) (r3 := 0) rfl rfl ?_
            refine wr_gr (k0 := 236) (x := 255) (nx := 43) (r1 := 11) (r2 := 39) (r3 := 0) rfl rfl (by decide) rfl ⟨rfl, rfl⟩ rfl ?_
            refine wi_iload_n (i := 2) (e := 0) (nx := 44) (r1 := 0) (r2 := 0) (r3 := 0) rfl rfl ?_
            refine wi_iload_n (i := 3) (e := x15) (nx := 45) (r1 := 0) (r2 := 0) (r3 := 0) rfl rfl ?_
            refine wr_is (k0 := 255) (a := 0) (f := 0) (x := x15) (bl := 0) (bh := 79) (nx := 46) (r1 := 0) (r2 := 0) (r3 := 0) rfl (by decide) rfl (by omega) (by omega) (by decide) g17 rfl (by omega) (fun h50 g50 w50 u50 => ?_)
            have F51 := F23.then rfl u50
            have F52 := u17.then rfl u50
            refine wi_aload_n (i := 0) (x := 236) (nx := 47) (r1 := 0) (r2 := 0) (r3 := 0) rfl rfl ?_
            refine wr_gr (k0 := 236) (x := 256) (nx := 50) (r1 := 11) (r2 := 40) (r3 := 0) rfl rfl (by decide) rfl ⟨rfl, rfl⟩ rfl ?_
            refine wi_iload_n (i := 2) (e := 0) (nx := 51) (r1 := 0) (r2 := 0) (r3 := 0) rfl rfl ?_
            refine wi_aload_n (i := 0) (x := 236) (nx := 52) (r1 := 0) (r2 := 0) (r3 := 0) rfl rfl ?_
            refine wr_gr (k0 := 236) (x := 254) (nx := 55) (r1 := 11) (r2 := 38) (r3 := 0) rfl rfl (by decide) rfl ⟨rfl, rfl⟩ rfl ?_
            refine wi_iload_n (i := 3) (e := x15) (nx := 56) (r1 := 0) (r2 := 0) (r3 := 0) rfl rfl ?_
            have b53 := gi_b (lo := 0) (hi := 999) g 254 i45 rfl
            refine wr_ia (k0 := 254) (a := x15) (f := i45) (x := h 254 i45) (nx := 57) (r1 := 0) (r2 := 0) (r3 := 0) rfl (by decide) rfl (by omega) (by omega) (by decide) ((u50 254 i45 (fn_a (by omega) fn_0)).trans (u17 254 i45 (fo_nk rfl))) ?_
            refine wr_is (k0 := 256) (a := 0) (f := 0) (x := h 254 i45) (bl := -1) (bh := 999) (nx := 58) (r1 := 0) (r2 := 0) (r3 := 0) rfl (by decide) rfl (by omega) (by omega) (by decide) g50 rfl (by omega) (fun h54 g54 w54 u54 => ?_)
            have F55 := F51.then rfl u54
            have F56 := F52.then rfl u54
            refine wr_iincL (i := 2) (n := 1) (v := 0) (1) ([(2, vi 1), (0, .ref 236), (1, vi x13), (3, vi x15), (4, vi x16)]) (nx := 61) (r1 := 0) (r2 := 0) (r3 := 0) rfl rfl (by decide) rfl ?_
            refine wr_iinc (i := 3) (n := 1) (v := x15) (fun e57 => [(3, vi e57), (2, vi 1), (0, .ref 236), (1, vi x13), (4, vi x16)]) (nx := 64) (r1 := 0) (r2 := 0) (r3 := 0) rfl rfl (fun _ => rfl) (fun e57 (fe57 : e57 = x15 + 1) => ?_)
            refine wi_goto (nx := 67) (r1 := 9) (r2 := 0) (r3 := 0) rfl ?_
            have e58 : h54 236 42 = h 236 42 := ((u54 236 42 rfl).trans ((u50 236 42 rfl).trans (u17 236 42 rfl)))
            have e59 : h54 238 98 = h17 238 98 := ((u54 238 98 rfl).trans (u50 238 98 rfl))
            have e60 : h54 238 99 = h17 238 99 := ((u54 238 99 rfl).trans (u50 238 99 rfl))
            have e61 : h54 238 100 = h17 238 100 := ((u54 238 100 rfl).trans (u50 238 100 rfl))
            have e62 : h54 238 101 = h17 238 101 := ((u54 238 101 rfl).trans (u50 238 101 rfl))
            have e63 : h54 238 102 = h17 238 102 := ((u54 238 102 rfl).trans (u50 238 102 rfl))
            have e64 : h54 238 106 = h17 238 106 := ((u54 238 106 rfl).trans (u50 238 106 rfl))
            have e65 : h54 238 73 = h17 238 73 := ((u54 238 73 rfl).trans (u50 238 73 rfl))
            have e66 : h54 238 2 = h 238 2 := ((u54 238 2 rfl).trans ((u50 238 2 rfl).trans (u17 238 2 rfl)))
            have e67 : h54 238 119 = h17 238 119 := ((u54 238 119 rfl).trans (u50 238 119 rfl))
            have e68 : h54 238 67 = h17 238 67 := ((u54 238 67 rfl).trans (u50 238 67 rfl))
            have e69 : h54 238 69 = h17 238 69 := ((u54 238 69 rfl).trans (u50 238 69 rfl))
            have e70 : h54 238 5 = h 238 5 := ((u54 238 5 rfl).trans ((u50 238 5 rfl).trans (u17 238 5 rfl)))
            have e71 : h54 255 0 = x15 := ((u54 255 0 rfl).trans w50)
            have e72 : h54 256 0 = h 254 i45 := w54
            have e73 : h54 255 1 = h17 255 1 := ((u54 255 1 rfl).trans (u50 255 1 rfl))
            have e74 : h54 256 1 = h17 256 1 := ((u54 256 1 rfl).trans (u50 256 1 rfl))
            refine wp.lo (lo := [(0, .ref 236), (1, vi x13), (2, vi 1), (3, vi e57), (4, vi x16)]) ⟨rfl, rfl, rfl, rfl, rfl, trivial⟩ rfl ?_
            exact I17 x13 1 e57 x16 h54 ⟨g54, F55, F56, (show (0 ≤ x13 ∧ x13 ≤ 100) ∧ (0 ≤ 1 ∧ 1 ≤ 2) ∧ (0 ≤ e57 ∧ e57 ≤ 80) ∧ (0 ≤ x16 ∧ x16 ≤ 1) ∧ (e57 ≤ (h54 236 42)) ∧ ((h54 238 98) + (h54 238 99) + (h54 238 100) + (h54 238 101) + (h54 238 102) + (h54 238 106) = (h54 238 73)) ∧ ((h54 238 73) ≤ (h54 238 2)) ∧ ((h54 238 119) ≤ (h54 238 67)) ∧ ((h54 238 69) ≤ (h54 238 5)) ∧ ((h54 238 2) ≤ 12 * (h54 238 5)) by omega), (BG.rep0 X17_0 (by omega) d487 (by omega) (by omega) (by omega) (by omega) (by omega))⟩ (show (muS x16 1 e57 (h54 255 0) (h54 256 0) (h54 255 1) (h54 256 1)).toNat < (muS x16 x14 x15 (h17 255 0) (h17 256 0) (h17 255 1) (h17 256 1)).toNat by (unfold muS; (repeat' split) <;> omega))
        ·
          rw [q44]
          refine wi_aload_n (i := 0) (x := 236) (nx := 29) (r1 := 0) (r2 := 0) (r3 := 0) rfl rfl ?_
          refine wr_gr (k0 := 236) (x := 253) (nx := 32) (r1 := 11) (r2 := 37) (r3 := 0) rfl rfl (by decide) rfl ⟨rfl, rfl⟩ rfl ?_
          refine wi_iload_n (i := 3) (e := x15) (nx := 33) (r1 := 0) (r2 := 0) (r3 := 0) rfl rfl ?_
          obtain ⟨i45, ei45⟩ : ∃ q : Nat, x15 = (q : Int) := ⟨(x15).toNat, by omega⟩
          have b46 := gi_b (lo := 0) (hi := 8) g 253 i45 rfl
          refine wr_ia (k0 := 253) (a := x15) (f := i45) (x := h 253 i45) (nx := 34) (r1 := 0) (r2 := 0) (r3 := 0) rfl (by decide) rfl (by omega) (by omega) (by decide) (u17 253 i45 (fo_nk rfl)) ?_
          refine wi_bipush (n := 7) (nx := 36) (r1 := 0) (r2 := 0) (r3 := 0) rfl (by decide) ?_
          refine wi_icmp (cd := .ne) (nx := 39) (r1 := 67) (r2 := 0) (r3 := 0) rfl (by omega) (by omega) (fun (q47 : (h 253 i45) ≠ 7) => ?_) (fun (q47 : ¬ ((h 253 i45) ≠ 7)) => ?_)
          ·
            refine wi_aload_n (i := 0) (x := 236) (nx := 68) (r1 := 0) (r2 := 0) (r3 := 0) rfl rfl ?_
            refine wr_gr (k0 := 236) (x := 253) (nx := 71) (r1 := 11) (r2 := 37) (r3 := 0) rfl rfl (by decide) rfl ⟨rfl, rfl⟩ rfl ?_
            refine wi_iload_n (i := 3) (e := x15) (nx := 72) (r1 := 0) (r2 := 0) (r3 := 0) rfl rfl ?_
            refine wr_ia (k0 := 253) (a := x15) (f := i45) (x := h 253 i45) (nx := 73) (r1 := 0) (r2 := 0) (r3 := 0) rfl (by decide) rfl (by omega) (by omega) (by decide) (u17 253 i45 (fo_nk rfl)) ?_
            refine wi_bipush (n := 8) (nx := 75) (r1 := 0) (r2 := 0) (r3 := 0) rfl (by decide) ?_
            refine wi_icmp (cd := .ne) (nx := 78) (r1 := 149) (r2 := 0) (r3 := 0) rfl (by omega) (by omega) (fun (q48 : (h 253 i45) ≠ 8) => ?_) (fun (q48 : ¬ ((h 253 i45) ≠ 8)) => ?_)
            ·
              refine wi_aload_n (i := 0) (x := 236) (nx := 150) (r1 := 0) (r2 := 0) (r3 := 0) rfl rfl ?_
              refine wi_aload_n (i := 0) (x := 236) (nx := 151) (r1 := 0) (r2 := 0) (r3 := 0) rfl rfl ?_
              refine wr_gr (k0 := 236) (x := 253) (nx := 154) (r1 := 11) (r2 := 37) (r3 := 0) rfl rfl (by decide) rfl ⟨rfl, rfl⟩ rfl ?_
              refine wi_iload_n (i := 3) (e := x15) (nx := 155) (r1 := 0) (r2 := 0) (r3 := 0) rfl rfl ?_
              refine wr_ia (k0 := 253) (a := x15) (f := i45) (x := h 253 i45) (nx := 156) (r1 := 0) (r2 := 0) (r3 := 0) rfl (by decide) rfl (by omega) (by omega) (by decide) (u17 253 i45 (fo_nk rfl)) ?_
              refine wi_aload_n (i := 0) (x := 236) (nx := 157) (r1 := 0) (r2 := 0) (r3 := 0) rfl rfl ?_
              refine wr_gr (k0 := 236) (x := 254) (nx := 160) (r1 := 11) (r2 := 38) (r3 := 0) rfl rfl (by decide) rfl ⟨rfl, rfl⟩ rfl ?_
              refine wi_iload_n (i := 3) (e := x15) (nx := 161) (r1 := 0) (r2 := 0) (r3 := 0) rfl rfl ?_
              have b49 := gi_b (lo := 0) (hi := 999) g 254 i45 rfl
              refine wr_ia (k0 := 254) (a := x15) (f := i45) (x := h 254 i45) (nx := 162) (r1 := 0) (r2 := 0) (r3 := 0) rfl (by decide) rfl (by omega) (by omega) (by decide) (u17 254 i45 (fo_nk rfl)) ?_
              refine wr_V (k0 := 236) (rest := []) (as := [.ref 236, vi (h 253 i45), vi (h 254 i45)]) (nx := 165) (r1 := 340) (r2 := 2) (r3 := 11) rfl rfl rfl (of_decide_eq_true rfl) rfl rfl (by decide) rfl rfl (of_decide_eq_true rfl) (of_decide_eq_true rfl) ?_
              refine ct_340_236 hcr  g17 (h 253 i45) (h 254 i45) (by omega) (by omega) (show (h17 238 98) + (h17 238 99) + (h17 238 100) + (h17 238 101) + (h17 238 102) + (h17 238 106) = (h17 238 73) by omega) (show (h17 238 73) ≤ (h17 238 2) by omega) (show (h17 238 119) ≤ (h17 238 67) by omega) (show (h17 238 69) ≤ (h17 238 5) by omega) (show (h17 238 2) ≤ 12 * (h17 238 5) by omega) (fun h50 z51 g50 u50 (fz51 : 0 ≤ z51 ∧ z51 ≤ 1) m50_0 (p50_0 : (h50 238 98) + (h50 238 99) + (h50 238 100) + (h50 238 101) + (h50 238 102) + (h50 238 106) = (h50 238 73)) (p50_1 : (h50 238 73) ≤ (h50 238 2)) (p50_2 : (h50 238 119) ≤ (h50 238 67)) (p50_3 : (h50 238 69) ≤ (h50 238 5)) (p50_4 : (h50 238 2) ≤ 12 * (h50 238 5)) => ?_)
              have F52 := F23.then (by decide +kernel) u50
              have F53 := u17.then (by decide +kernel) u50
              have b54 := gi_b (lo := 0) (hi := 6) g50 238 98 rfl
              have b55 := gi_b (lo := 0) (hi := 6) g50 238 99 rfl
              have b56 := gi_b (lo := 0) (hi := 6) g50 238 100 rfl
              have b57 := gi_b (lo := 0) (hi := 6) g50 238 101 rfl
              have b58 := gi_b (lo := 0) (hi := 3) g50 238 102 rfl
              have b59 := gi_b (lo := 0) (hi := 12) g50 238 106 rfl
              have b60 := gi_b (lo := 0) (hi := 12) g50 238 73 rfl
              have e61 : h50 238 2 = h 238 2 := ((u50 238 2 rfl).trans (u17 238 2 rfl))
              have b62 := gi_b (lo := 0) (hi := 9999) g50 238 119 rfl
              have b63 := gi_b (lo := 0) (hi := 9999) g50 238 67 rfl
              have b64 := gi_b (lo := 0) (hi := 9) g50 238 69 rfl
              have e65 : h50 238 5 = h 238 5 := ((u50 238 5 rfl).trans (u17 238 5 rfl))
              refine wk_i ?_
              refine wi_istore (i := 4) (e := z51) (lo2 := [(4, vi z51), (0, .ref 236), (1, vi x13), (2, vi 1), (3, vi x15)]) (nx := 167) (r1 := 0) (r2 := 0) (r3 := 0) rfl rfl ?_
              refine wi_iload_n (i := 1) (e := x13) (nx := 168) (r1 := 0) (r2 := 0) (r3 := 0) rfl rfl ?_
              refine wi_iload (i := 4) (e := z51) (nx := 170) (r1 := 0) (r2 := 0) (r3 := 0) rfl rfl ?_
              refine wi_S (rest := [vi x13]) (as := [vi z51]) (nx := 173) (r1 := 207) (r2 := 17) (r3 := 0) rfl rfl rfl (of_decide_eq_true rfl) rfl rfl (of_decide_eq_true rfl) (of_decide_eq_true rfl) ?_
              refine wi_iload_n (i := 0) (e := z51) (nx := 1) (r1 := 0) (r2 := 0) (r3 := 0) rfl rfl ?_
              refine wi_if (cd := .eq) (nx := 4) (r1 := 8) (r2 := 0) (r3 := 0) rfl (by omega) (fun (q66 : z51 = 0) => ?_) (fun (q66 : ¬ (z51 = 0)) => ?_)
              ·
                have f67 : 0 ≤ (h 253 i45) ∧ (h 253 i45) ≤ 5 := m50_0 (by omega)
                refine wi_iconst (n := 0) (nx := 9) (r1 := 0) (r2 := 0) (r3 := 0) rfl ?_
                refine wi_ireturn (nx := 10) (r1 := 0) (r2 := 0) (r3 := 0) rfl rfl ?_
                refine wk_i ?_
                refine wr_add (nx := 174) (r1 := 0) (r2 := 0) (r3 := 0) rfl (fun e68 (fe68 : e68 = x13 + 0) => ?_)
                refine wi_istore_n (i := 1) (e := e68) (lo2 := [(1, vi e68), (4, vi z51), (0, .ref 236), (2, vi 1), (3, vi x15)]) (nx := 175) (r1 := 0) (r2 := 0) (r3 := 0) rfl rfl ?_
                refine wr_iinc (i := 3) (n := 1) (v := x15) (fun e69 => [(3, vi e69), (1, vi e68), (4, vi z51), (0, .ref 236), (2, vi 1)]) (nx := 178) (r1 := 0) (r2 := 0) (r3 := 0) rfl rfl (fun _ => rfl) (fun e69 (fe69 : e69 = x15 + 1) => ?_)
                refine wi_goto (nx := 181) (r1 := 9) (r2 := 0) (r3 := 0) rfl ?_
                have e70 : h50 236 42 = h 236 42 := ((u50 236 42 rfl).trans (u17 236 42 rfl))
                have e71 : h50 255 0 = h17 255 0 := (u50 255 0 rfl)
                have e72 : h50 256 0 = h17 256 0 := (u50 256 0 rfl)
                have e73 : h50 255 1 = h17 255 1 := (u50 255 1 rfl)
                have e74 : h50 256 1 = h17 256 1 := (u50 256 1 rfl)
                refine wp.lo (lo := [(0, .ref 236), (1, vi e68), (2, vi 1), (3, vi e69), (4, vi z51)]) ⟨rfl, rfl, rfl, rfl, rfl, trivial⟩ rfl ?_
                have q75 : h50 255 = h17 255 := funext (fun i => (u50 255 i (fo_no_ok (by decide) i)))
                have q76 : h50 256 = h17 256 := funext (fun i => (u50 256 i (fo_no_ok (by decide) i)))
                have c77 : h17 253 i45 = h 253 i45 := (u17 253 i45 (fo_nk rfl))
                exact I17 e68 1 e69 z51 h50 ⟨g50, F52, F53, (show (0 ≤ e68 ∧ e68 ≤ 100) ∧ (0 ≤ 1 ∧ 1 ≤ 2) ∧ (0 ≤ e69 ∧ e69 ≤ 80) ∧ (0 ≤ z51 ∧ z51 ≤ 1) ∧ (e69 ≤ (h50 236 42)) ∧ ((h50 238 98) + (h50 238 99) + (h50 238 100) + (h50 238 101) + (h50 238 102) + (h50 238 106) = (h50 238 73)) ∧ ((h50 238 73) ≤ (h50 238 2)) ∧ ((h50 238 119) ≤ (h50 238 67)) ∧ ((h50 238 69) ≤ (h50 238 5)) ∧ ((h50 238 2) ≤ 12 * (h50 238 5)) by omega), (by rw [q75, q76]; exact BG.com X17_0 (by omega) (by rw [show (x15).toNat = i45 by omega]; omega) (by rw [show (x15).toNat = i45 by omega]; omega) (by omega) (by omega))⟩ (show (muS z51 1 e69 (h50 255 0) (h50 256 0) (h50 255 1) (h50 256 1)).toNat < (muS x16 x14 x15 (h17 255 0) (h17 256 0) (h17 255 1) (h17 256 1)).toNat by (unfold muS; (repeat' split) <;> omega))
              ·
                refine wi_iconst (n := 1) (nx := 5) (r1 := 0) (r2 := 0) (r3 := 0) rfl ?_
                refine wi_goto (nx := 8) (r1 := 9) (r2 := 0) (r3 := 0) rfl ?_
                refine wi_ireturn (nx := 10) (r1 := 0) (r2 := 0) (r3 := 0) rfl rfl ?_
                refine wk_i ?_
                refine wr_add (nx := 174) (r1 := 0) (r2 := 0) (r3 := 0) rfl (fun e67 (fe67 : e67 = x13 + 1) => ?_)
                refine wi_istore_n (i := 1) (e := e67) (lo2 := [(1, vi e67), (4, vi z51), (0, .ref 236), (2, vi 1), (3, vi x15)]) (nx := 175) (r1 := 0) (r2 := 0) (r3 := 0) rfl rfl ?_
                refine wr_iinc (i := 3) (n := 1) (v := x15) (fun e68 => [(3, vi e68), (1, vi e67), (4, vi z51), (0, .ref 236), (2, vi 1)]) (nx := 178) (r1 := 0) (r2 := 0) (r3 := 0) rfl rfl (fun _ => rfl) (fun e68 (fe68 : e68 = x15 + 1) => ?_)
                refine wi_goto (nx := 181) (r1 := 9) (r2 := 0) (r3 := 0) rfl ?_
                have e69 : h50 236 42 = h 236 42 := ((u50 236 42 rfl).trans (u17 236 42 rfl))
                have e70 : h50 255 0 = h17 255 0 := (u50 255 0 rfl)
                have e71 : h50 256 0 = h17 256 0 := (u50 256 0 rfl)
                have e72 : h50 255 1 = h17 255 1 := (u50 255 1 rfl)
                have e73 : h50 256 1 = h17 256 1 := (u50 256 1 rfl)
                refine wp.lo (lo := [(0, .ref 236), (1, vi e67), (2, vi 1), (3, vi e68), (4, vi z51)]) ⟨rfl, rfl, rfl, rfl, rfl, trivial⟩ rfl ?_
                have q74 : h50 255 = h17 255 := funext (fun i => (u50 255 i (fo_no_ok (by decide) i)))
                have q75 : h50 256 = h17 256 := funext (fun i => (u50 256 i (fo_no_ok (by decide) i)))
                have c76 : h17 253 i45 = h 253 i45 := (u17 253 i45 (fo_nk rfl))
                exact I17 e67 1 e68 z51 h50 ⟨g50, F52, F53, (show (0 ≤ e67 ∧ e67 ≤ 100) ∧ (0 ≤ 1 ∧ 1 ≤ 2) ∧ (0 ≤ e68 ∧ e68 ≤ 80) ∧ (0 ≤ z51 ∧ z51 ≤ 1) ∧ (e68 ≤ (h50 236 42)) ∧ ((h50 238 98) + (h50 238 99) + (h50 238 100) + (h50 238 101) + (h50 238 102) + (h50 238 106) = (h50 238 73)) ∧ ((h50 238 73) ≤ (h50 238 2)) ∧ ((h50 238 119) ≤ (h50 238 67)) ∧ ((h50 238 69) ≤ (h50 238 5)) ∧ ((h50 238 2) ≤ 12 * (h50 238 5)) by omega), (by rw [q74, q75]; exact BG.com X17_0 (by omega) (by rw [show (x15).toNat = i45 by omega]; omega) (by rw [show (x15).toNat = i45 by omega]; omega) (by omega) (by omega))⟩ (show (muS z51 1 e68 (h50 255 0) (h50 256 0) (h50 255 1) (h50 256 1)).toNat < (muS x16 x14 x15 (h17 255 0) (h17 256 0) (h17 255 1) (h17 256 1)).toNat by (unfold muS; (repeat' split) <;> omega))
            ·
              have c50 : h17 253 i45 = h 253 i45 := (u17 253 i45 (fo_nk rfl))
              have d498 : h 253 (x15).toNat = 8 := by rw [show (x15).toNat = i45 by omega]; omega
              have d49d := dep_8 d498
              have d49w := xq0.2.1 ((x15).toNat + 1) (by omega)
              have d49x := X17_0.1
              have d49b := X17_0.2.1 (by omega)
              have d49b1 : 0 ≤ h17 255 0 := d49b.1
              have d49b2 : h17 255 0 < x15 := d49b.2.1
              have d49b5 : 0 ≤ h17 256 0 := d49b.2.2.2.2
              refine wi_aload_n (i := 0) (x := 236) (nx := 79) (r1 := 0) (r2 := 0) (r3 := 0) rfl rfl ?_
              refine wr_gr (k0 := 236) (x := 256) (nx := 82) (r1 := 11) (r2 := 40) (r3 := 0) rfl rfl (by decide) rfl ⟨rfl, rfl⟩ rfl ?_
              refine wi_iload_n (i := 2) (e := 1) (nx := 83) (r1 := 0) (r2 := 0) (r3 := 0) rfl rfl ?_
              refine wi_iconst (n := 1) (nx := 84) (r1 := 0) (r2 := 0) (r3 := 0) rfl ?_
              refine wr_subL (0) (nx := 85) (r1 := 0) (r2 := 0) (r3 := 0) rfl (by decide) ?_
              refine wi_dup2 (nx := 86) (r1 := 0) (r2 := 0) (r3 := 0) rfl rfl rfl ?_
              refine wr_ia (k0 := 256) (a := 0) (f := 0) (x := h17 256 0) (nx := 87) (r1 := 0) (r2 := 0) (r3 := 0) rfl (by decide) rfl (by omega) (by omega) (by decide) rfl ?_
              refine wi_iconst (n := 1) (nx := 88) (r1 := 0) (r2 := 0) (r3 := 0) rfl ?_
              refine wr_sub (nx := 89) (r1 := 0) (r2 := 0) (r3 := 0) rfl (fun e51 (fe51 : e51 = (h17 256 0) - 1) => ?_)
              refine wr_is (k0 := 256) (a := 0) (f := 0) (x := e51) (bl := -1) (bh := 999) (nx := 90) (r1 := 0) (r2 := 0) (r3 := 0) rfl (by decide) rfl (by omega) (by omega) (by decide) g17 rfl (by omega) (fun h52 g52 w52 u52 => ?_)
              have F53 := F23.then rfl u52
              have F54 := u17.then rfl u52
              refine wi_aload_n (i := 0) (x := 236) (nx := 91) (r1 := 0) (r2 := 0) (r3 := 0) rfl rfl ?_
              refine wr_gr (k0 := 236) (x := 256) (nx := 94) (r1 := 11) (r2 := 40) (r3 := 0) rfl rfl (by decide) rfl ⟨rfl, rfl⟩ rfl ?_
              refine wi_iload_n (i := 2) (e := 1) (nx := 95) (r1 := 0) (r2 := 0) (r3 := 0) rfl rfl ?_
              refine wi_iconst (n := 1) (nx := 96) (r1 := 0) (r2 := 0) (r3 := 0) rfl ?_
              refine wr_subL (0) (nx := 97) (r1 := 0) (r2 := 0) (r3 := 0) rfl (by decide) ?_
              refine wr_ia (k0 := 256) (a := 0) (f := 0) (x := e51) (nx := 98) (r1 := 0) (r2 := 0) (r3 := 0) rfl (by decide) rfl (by omega) (by omega) (by decide) w52 ?_
              refine wi_if (cd := .le) (nx := 101) (r1 := 105) (r2 := 0) (r3 := 0) rfl (by omega) (fun (q55 : e51 ≤ 0) => ?_) (fun (q55 : ¬ (e51 ≤ 0)) => ?_)
              ·
                refine wi_iconst (n := 0) (nx := 106) (r1 := 0) (r2 := 0) (r3 := 0) rfl ?_
                refine wi_istore (i := 5) (e := 0) (lo2 := [(5, vi 0), (0, .ref 236), (1, vi x13), (2, vi 1), (3, vi x15), (4, vi x16)]) (nx := 108) (r1 := 0) (r2 := 0) (r3 := 0) rfl rfl ?_
                refine wi_iload (i := 5) (e := 0) (nx := 110) (r1 := 0) (r2 := 0) (r3 := 0) rfl rfl ?_
                refine wi_if (cd := .eq) (nx := 113) (r1 := 126) (r2 := 0) (r3 := 0) rfl (by omega) (fun (q56 : 0 = 0) => ?_) (fun (q56 : ¬ (0 = 0)) => by exfalso; omega)
                refine wi_iload_n (i := 3) (e := x15) (nx := 127) (r1 := 0) (r2 := 0) (r3 := 0) rfl rfl ?_
                refine wi_iconst (n := 1) (nx := 128) (r1 := 0) (r2 := 0) (r3 := 0) rfl ?_
                refine wr_add (nx := 129) (r1 := 0) (r2 := 0) (r3 := 0) rfl (fun e57 (fe57 : e57 = x15 + 1) => ?_)
                refine wi_istore_n (i := 3) (e := e57) (lo2 := [(3, vi e57), (5, vi 0), (0, .ref 236), (1, vi x13), (2, vi 1), (4, vi x16)]) (nx := 130) (r1 := 0) (r2 := 0) (r3 := 0) rfl rfl ?_
                refine wi_iload_n (i := 2) (e := 1) (nx := 131) (r1 := 0) (r2 := 0) (r3 := 0) rfl rfl ?_
                refine wi_iload (i := 5) (e := 0) (nx := 133) (r1 := 0) (r2 := 0) (r3 := 0) rfl rfl ?_
                refine wi_if (cd := .ne) (nx := 136) (r1 := 140) (r2 := 0) (r3 := 0) rfl (by omega) (fun (q58 : 0 ≠ 0) => by exfalso; omega) (fun (q58 : ¬ (0 ≠ 0)) => ?_)
                refine wi_iconst (n := 1) (nx := 137) (r1 := 0) (r2 := 0) (r3 := 0) rfl ?_
                refine wi_goto (nx := 140) (r1 := 141) (r2 := 0) (r3 := 0) rfl ?_
                refine wi_S (rest := [vi 1]) (as := [vi 1]) (nx := 144) (r1 := 207) (r2 := 17) (r3 := 0) rfl rfl rfl (of_decide_eq_true rfl) rfl rfl (of_decide_eq_true rfl) (of_decide_eq_true rfl) ?_
                refine wi_iload_n (i := 0) (e := 1) (nx := 1) (r1 := 0) (r2 := 0) (r3 := 0) rfl rfl ?_
                refine wi_if (cd := .eq) (nx := 4) (r1 := 8) (r2 := 0) (r3 := 0) rfl (by omega) (fun (q59 : 1 = 0) => by exfalso; omega) (fun (q59 : ¬ (1 = 0)) => ?_)
                refine wi_iconst (n := 1) (nx := 5) (r1 := 0) (r2 := 0) (r3 := 0) rfl ?_
                refine wi_goto (nx := 8) (r1 := 9) (r2 := 0) (r3 := 0) rfl ?_
                refine wi_ireturn (nx := 10) (r1 := 0) (r2 := 0) (r3 := 0) rfl rfl ?_
                refine wk_i ?_
                refine wr_subL (0) (nx := 145) (r1 := 0) (r2 := 0) (r3 := 0) rfl (by decide) ?_
                refine wi_istore_n (i := 2) (e := 0) (lo2 := [(2, vi 0), (3, vi e57), (5, vi 0), (0, .ref 236), (1, vi x13), (4, vi x16)]) (nx := 146) (r1 := 0) (r2 := 0) (r3 := 0) rfl rfl ?_
                refine wi_goto (nx := 149) (r1 := 9) (r2 := 0) (r3 := 0) rfl ?_
                have e60 : h52 236 42 = h 236 42 := ((u52 236 42 rfl).trans (u17 236 42 rfl))
                have e61 : h52 238 98 = h17 238 98 := (u52 238 98 rfl)
                have e62 : h52 238 99 = h17 238 99 := (u52 238 99 rfl)
                have e63 : h52 238 100 = h17 238 100 := (u52 238 100 rfl)
                have e64 : h52 238 101 = h17 238 101 := (u52 238 101 rfl)
                have e65 : h52 238 102 = h17 238 102 := (u52 238 102 rfl)
                have e66 : h52 238 106 = h17 238 106 := (u52 238 106 rfl)
                have e67 : h52 238 73 = h17 238 73 := (u52 238 73 rfl)
                have e68 : h52 238 2 = h 238 2 := ((u52 238 2 rfl).trans (u17 238 2 rfl))
                have e69 : h52 238 119 = h17 238 119 := (u52 238 119 rfl)
                have e70 : h52 238 67 = h17 238 67 := (u52 238 67 rfl)
                have e71 : h52 238 69 = h17 238 69 := (u52 238 69 rfl)
                have e72 : h52 238 5 = h 238 5 := ((u52 238 5 rfl).trans (u17 238 5 rfl))
                have e73 : h52 255 0 = h17 255 0 := (u52 255 0 rfl)
                have e74 : h52 256 0 = e51 := w52
                have e75 : h52 255 1 = h17 255 1 := (u52 255 1 rfl)
                have e76 : h52 256 1 = h17 256 1 := (u52 256 1 rfl)
                refine wp.lo (lo := [(0, .ref 236), (1, vi x13), (2, vi 0), (3, vi e57), (4, vi x16)]) ⟨rfl, rfl, rfl, rfl, rfl, trivial⟩ rfl ?_
                exact I17 x13 0 e57 x16 h52 ⟨g52, F53, F54, (show (0 ≤ x13 ∧ x13 ≤ 100) ∧ (0 ≤ 0 ∧ 0 ≤ 2) ∧ (0 ≤ e57 ∧ e57 ≤ 80) ∧ (0 ≤ x16 ∧ x16 ≤ 1) ∧ (e57 ≤ (h52 236 42)) ∧ ((h52 238 98) + (h52 238 99) + (h52 238 100) + (h52 238 101) + (h52 238 102) + (h52 238 106) = (h52 238 73)) ∧ ((h52 238 73) ≤ (h52 238 2)) ∧ ((h52 238 119) ≤ (h52 238 67)) ∧ ((h52 238 69) ≤ (h52 238 5)) ∧ ((h52 238 2) ≤ 12 * (h52 238 5)) by omega), (BG.fin X17_0 (by omega) d498 (by omega) (by omega) (by omega) (by omega) (fun _ => by omega))⟩ (show (muS x16 0 e57 (h52 255 0) (h52 256 0) (h52 255 1) (h52 256 1)).toNat < (muS x16 x14 x15 (h17 255 0) (h17 256 0) (h17 255 1) (h17 256 1)).toNat by (unfold muS; (repeat' split) <;> omega))
              ·
                refine wi_iconst (n := 1) (nx := 102) (r1 := 0) (r2 := 0) (r3 := 0) rfl ?_
                refine wi_goto (nx := 105) (r1 := 106) (r2 := 0) (r3 := 0) rfl ?_
                refine wi_istore (i := 5) (e := 1) (lo2 := [(5, vi 1), (0, .ref 236), (1, vi x13), (2, vi 1), (3, vi x15), (4, vi x16)]) (nx := 108) (r1 := 0) (r2 := 0) (r3 := 0) rfl rfl ?_
                refine wi_iload (i := 5) (e := 1) (nx := 110) (r1 := 0) (r2 := 0) (r3 := 0) rfl rfl ?_
                refine wi_if (cd := .eq) (nx := 113) (r1 := 126) (r2 := 0) (r3 := 0) rfl (by omega) (fun (q56 : 1 = 0) => by exfalso; omega) (fun (q56 : ¬ (1 = 0)) => ?_)
                refine wi_aload_n (i := 0) (x := 236) (nx := 114) (r1 := 0) (r2 := 0) (r3 := 0) rfl rfl ?_
                refine wr_gr (k0 := 236) (x := 255) (nx := 117) (r1 := 11) (r2 := 39) (r3 := 0) rfl rfl (by decide) rfl ⟨rfl, rfl⟩ rfl ?_
                refine wi_iload_n (i := 2) (e := 1) (nx := 118) (r1 := 0) (r2 := 0) (r3 := 0) rfl rfl ?_
                refine wi_iconst (n := 1) (nx := 119) (r1 := 0) (r2 := 0) (r3 := 0) rfl ?_
                refine wr_subL (0) (nx := 120) (r1 := 0) (r2 := 0) (r3 := 0) rfl (by decide) ?_
                refine wr_ia (k0 := 255) (a := 0) (f := 0) (x := h17 255 0) (nx := 121) (r1 := 0) (r2 := 0) (r3 := 0) rfl (by decide) rfl (by omega) (by omega) (by decide) (u52 255 0 rfl) ?_
                refine wi_iconst (n := 1) (nx := 122) (r1 := 0) (r2 := 0) (r3 := 0) rfl ?_
                refine wr_add (nx := 123) (r1 := 0) (r2 := 0) (r3 := 0) rfl (fun e57 (fe57 : e57 = (h17 255 0) + 1) => ?_)
                refine wi_goto (nx := 126) (r1 := 129) (r2 := 0) (r3 := 0) rfl ?_
                refine wi_istore_n (i := 3) (e := e57) (lo2 := [(3, vi e57), (5, vi 1), (0, .ref 236), (1, vi x13), (2, vi 1), (4, vi x16)]) (nx := 130) (r1 := 0) (r2 := 0) (r3 := 0) rfl rfl ?_
                refine wi_iload_n (i := 2) (e := 1) (nx := 131) (r1 := 0) (r2 := 0) (r3 := 0) rfl rfl ?_
                refine wi_iload (i := 5) (e := 1) (nx := 133) (r1 := 0) (r2 := 0) (r3 := 0) rfl rfl ?_
                refine wi_if (cd := .ne) (nx := 136) (r1 := 140) (r2 := 0) (r3 := 0) rfl (by omega) (fun (q58 : 1 ≠ 0) => ?_) (fun (q58 : ¬ (1 ≠ 0)) => by exfalso; omega)
                refine wi_iconst (n := 0) (nx := 141) (r1 := 0) (r2 := 0) (r3 := 0) rfl ?_
                refine wi_S (rest := [vi 1]) (as := [vi 0]) (nx := 144) (r1 := 207) (r2 := 17) (r3 := 0) rfl rfl rfl (of_decide_eq_true rfl) rfl rfl (of_decide_eq_true rfl) (of_decide_eq_true rfl) ?_
                refine wi_iload_n (i := 0) (e := 0) (nx := 1) (r1 := 0) (r2 := 0) (r3 := 0) rfl rfl ?_
                refine wi_if (cd := .eq) (nx := 4) (r1 := 8) (r2 := 0) (r3 := 0) rfl (by omega) (fun (q59 : 0 = 0) => ?_) (fun (q59 : ¬ (0 = 0)) => by exfalso; omega)
                refine wi_iconst (n := 0) (nx := 9) (r1 := 0) (r2 := 0) (r3 := 0) rfl ?_
                refine wi_ireturn (nx := 10) (r1 := 0) (r2 := 0) (r3 := 0) rfl rfl ?_
                refine wk_i ?_
                refine wr_subL (1) (nx := 145) (r1 := 0) (r2 := 0) (r3 := 0) rfl (by decide) ?_
                refine wi_istore_n (i := 2) (e := 1) (lo2 := [(2, vi 1), (3, vi e57), (5, vi 1), (0, .ref 236), (1, vi x13), (4, vi x16)]) (nx := 146) (r1 := 0) (r2 := 0) (r3 := 0) rfl rfl ?_
                refine wi_goto (nx := 149) (r1 := 9) (r2 := 0) (r3 := 0) rfl ?_
                have e60 : h52 236 42 = h 236 42 := ((u52 236 42 rfl).trans (u17 236 42 rfl))
                have e61 : h52 238 98 = h17 238 98 := (u52 238 98 rfl)
                have e62 : h52 238 99 = h17 238 99 := (u52 238 99 rfl)
                have e63 : h52 238 100 = h17 238 100 := (u52 238 100 rfl)
                have e64 : h52 238 101 = h17 238 101 := (u52 238 101 rfl)
                have e65 : h52 238 102 = h17 238 102 := (u52 238 102 rfl)
                have e66 : h52 238 106 = h17 238 106 := (u52 238 106 rfl)
                have e67 : h52 238 73 = h17 238 73 := (u52 238 73 rfl)
                have e68 : h52 238 2 = h 238 2 := ((u52 238 2 rfl).trans (u17 238 2 rfl))
                have e69 : h52 238 119 = h17 238 119 := (u52 238 119 rfl)
                have e70 : h52 238 67 = h17 238 67 := (u52 238 67 rfl)
                have e71 : h52 238 69 = h17 238 69 := (u52 238 69 rfl)
                have e72 : h52 238 5 = h 238 5 := ((u52 238 5 rfl).trans (u17 238 5 rfl))
                have e73 : h52 255 0 = h17 255 0 := (u52 255 0 rfl)
                have e74 : h52 256 0 = e51 := w52
                have e75 : h52 255 1 = h17 255 1 := (u52 255 1 rfl)
                have e76 : h52 256 1 = h17 256 1 := (u52 256 1 rfl)
                refine wp.lo (lo := [(0, .ref 236), (1, vi x13), (2, vi 1), (3, vi e57), (4, vi x16)]) ⟨rfl, rfl, rfl, rfl, rfl, trivial⟩ rfl ?_
                exact I17 x13 1 e57 x16 h52 ⟨g52, F53, F54, (show (0 ≤ x13 ∧ x13 ≤ 100) ∧ (0 ≤ 1 ∧ 1 ≤ 2) ∧ (0 ≤ e57 ∧ e57 ≤ 80) ∧ (0 ≤ x16 ∧ x16 ≤ 1) ∧ (e57 ≤ (h52 236 42)) ∧ ((h52 238 98) + (h52 238 99) + (h52 238 100) + (h52 238 101) + (h52 238 102) + (h52 238 106) = (h52 238 73)) ∧ ((h52 238 73) ≤ (h52 238 2)) ∧ ((h52 238 119) ≤ (h52 238 67)) ∧ ((h52 238 69) ≤ (h52 238 5)) ∧ ((h52 238 2) ≤ 12 * (h52 238 5)) by omega), (BG.again1 X17_0 (by omega) (by omega) (by omega) (by omega) (by omega))⟩ (show (muS x16 1 e57 (h52 255 0) (h52 256 0) (h52 255 1) (h52 256 1)).toNat < (muS x16 x14 x15 (h17 255 0) (h17 256 0) (h17 255 1) (h17 256 1)).toNat by (unfold muS; (repeat' split) <;> omega))
          ·
            have c49 : h17 253 i45 = h 253 i45 := (u17 253 i45 (fo_nk rfl))
            have d487 : h 253 (x15).toNat = 7 := by rw [show (x15).toNat = i45 by omega]; omega
            have d48d := dep_7 d487
            have d48w := xq0.2.1 ((x15).toNat + 1) (by omega)
            have d48x := X17_0.1
            refine wi_aload_n (i := 0) (x := 236) (nx := 40) (r1 := 0) (r2 := 0) (r3 := 0) rfl rfl ?_
            refine wr_gr (k0 := 236) (x := 255) (nx := 43) (r1 := 11) (r2 := 39) (r3 := 0) rfl rfl (by decide) rfl ⟨rfl, rfl⟩ rfl ?_
            refine wi_iload_n (i := 2) (e := 1) (nx := 44) (r1 := 0) (r2 := 0) (r3 := 0) rfl rfl ?_
            refine wi_iload_n (i := 3) (e := x15) (nx := 45) (r1 := 0) (r2 := 0) (r3 := 0) rfl rfl ?_
            refine wr_is (k0 := 255) (a := 1) (f := 1) (x := x15) (bl := 0) (bh := 79) (nx := 46) (r1 := 0) (r2 := 0) (r3 := 0) rfl (by decide) rfl (by omega) (by omega) (by decide) g17 rfl (by omega) (fun h50 g50 w50 u50 => ?_)
            have F51 := F23.then rfl u50
            have F52 := u17.then rfl u50
            refine wi_aload_n (i := 0) (x := 236) (nx := 47) (r1 := 0) (r2 := 0) (r3 := 0) rfl rfl ?_
            refine wr_gr (k0 := 236) (x := 256) (nx := 50) (r1 := 11) (r2 := 40) (r3 := 0) rfl rfl (by decide) rfl ⟨rfl, rfl⟩ rfl ?_
            refine wi_iload_n (i := 2) (e := 1) (nx := 51) (r1 := 0) (r2 := 0) (r3 := 0) rfl rfl ?_
            refine wi_aload_n (i := 0) (x := 236) (nx := 52) (r1 := 0) (r2 := 0) (r3 := 0) rfl rfl ?_
            refine wr_gr (k0 := 236) (x := 254) (nx := 55) (r1 := 11) (r2 := 38) (r3 := 0) rfl rfl (by decide) rfl ⟨rfl, rfl⟩ rfl ?_
            refine wi_iload_n (i := 3) (e := x15) (nx := 56) (r1 := 0) (r2 := 0) (r3 := 0) rfl rfl ?_
            have b53 := gi_b (lo := 0) (hi := 999) g 254 i45 rfl
            refine wr_ia (k0 := 254) (a := x15) (f := i45) (x := h 254 i45) (nx := 57) (r1 := 0) (r2 := 0) (r3 := 0) rfl (by decide) rfl (by omega) (by omega) (by decide) ((u50 254 i45 (fn_a (by omega) fn_0)).trans (u17 254 i45 (fo_nk rfl))) ?_
            refine wr_is (k0 := 256) (a := 1) (f := 1) (x := h 254 i45) (bl := -1) (bh := 999) (nx := 58) (r1 := 0) (r2 := 0) (r3 := 0) rfl (by decide) rfl (by omega) (by omega) (by decide) g50 rfl (by omega) (fun h54 g54 w54 u54 => ?_)
            have F55 := F51.then rfl u54
            have F56 := F52.then rfl u54
            refine wr_iincL (i := 2) (n := 1) (v := 1) (2) ([(2, vi 2), (0, .ref 236), (1, vi x13), (3, vi x15), (4, vi x16)]) (nx := 61) (r1 := 0) (r2 := 0) (r3 := 0) rfl rfl (by decide) rfl ?_
            refine wr_iinc (i := 3) (n := 1) (v := x15) (fun e57 => [(3, vi e57), (2, vi 2), (0, .ref 236), (1, vi x13), (4, vi x16)]) (nx := 64) (r1 := 0) (r2 := 0) (r3 := 0) rfl rfl (fun _ => rfl) (fun e57 (fe57 : e57 = x15 + 1) => ?_)
            refine wi_goto (nx := 67) (r1 := 9) (r2 := 0) (r3 := 0) rfl ?_
            have e58 : h54 236 42 = h 236 42 := ((u54 236 42 rfl).trans ((u50 236 42 rfl).trans (u17 236 42 rfl)))
            have e59 : h54 238 98 = h17 238 98 := ((u54 238 98 rfl).trans (u50 238 98 rfl))
            have e60 : h54 238 99 = h17 238 99 := ((u54 238 99 rfl).trans (u50 238 99 rfl))
            have e61 : h54 238 100 = h17 238 100 := ((u54 238 100 rfl).trans (u50 238 100 rfl))
            have e62 : h54 238 101 = h17 238 101 := ((u54 238 101 rfl).trans (u50 238 101 rfl))
            have e63 : h54 238 102 = h17 238 102 := ((u54 238 102 rfl).trans (u50 238 102 rfl))
            have e64 : h54 238 106 = h17 238 106 := ((u54 238 106 rfl).trans (u50 238 106 rfl))
            have e65 : h54 238 73 = h17 238 73 := ((u54 238 73 rfl).trans (u50 238 73 rfl))
            have e66 : h54 238 2 = h 238 2 := ((u54 238 2 rfl).trans ((u50 238 2 rfl).trans (u17 238 2 rfl)))
            have e67 : h54 238 119 = h17 238 119 := ((u54 238 119 rfl).trans (u50 238 119 rfl))
            have e68 : h54 238 67 = h17 238 67 := ((u54 238 67 rfl).trans (u50 238 67 rfl))
            have e69 : h54 238 69 = h17 238 69 := ((u54 238 69 rfl).trans (u50 238 69 rfl))
            have e70 : h54 238 5 = h 238 5 := ((u54 238 5 rfl).trans ((u50 238 5 rfl).trans (u17 238 5 rfl)))
            have e71 : h54 255 0 = h17 255 0 := ((u54 255 0 rfl).trans (u50 255 0 rfl))
            have e72 : h54 256 0 = h17 256 0 := ((u54 256 0 rfl).trans (u50 256 0 rfl))
            have e73 : h54 255 1 = x15 := ((u54 255 1 rfl).trans w50)
            have e74 : h54 256 1 = h 254 i45 := w54
            refine wp.lo (lo := [(0, .ref 236), (1, vi x13), (2, vi 2), (3, vi e57), (4, vi x16)]) ⟨rfl, rfl, rfl, rfl, rfl, trivial⟩ rfl ?_
            exact I17 x13 2 e57 x16 h54 ⟨g54, F55, F56, (show (0 ≤ x13 ∧ x13 ≤ 100) ∧ (0 ≤ 2 ∧ 2 ≤ 2) ∧ (0 ≤ e57 ∧ e57 ≤ 80) ∧ (0 ≤ x16 ∧ x16 ≤ 1) ∧ (e57 ≤ (h54 236 42)) ∧ ((h54 238 98) + (h54 238 99) + (h54 238 100) + (h54 238 101) + (h54 238 102) + (h54 238 106) = (h54 238 73)) ∧ ((h54 238 73) ≤ (h54 238 2)) ∧ ((h54 238 119) ≤ (h54 238 67)) ∧ ((h54 238 69) ≤ (h54 238 5)) ∧ ((h54 238 2) ≤ 12 * (h54 238 5)) by omega), (BG.rep1 X17_0 (by omega) d487 (by omega) (by omega) (by omega) (by omega) (by omega) (by omega) (by omega))⟩ (show (muS x16 2 e57 (h54 255 0) (h54 256 0) (h54 255 1) (h54 256 1)).toNat < (muS x16 x14 x15 (h17 255 0) (h17 256 0) (h17 255 1) (h17 256 1)).toNat by (unfold muS; (repeat' split) <;> omega))
        ·
          rw [q44]
          refine wi_aload_n (i := 0) (x := 236) (nx := 29) (r1 := 0) (r2 := 0) (r3 := 0) rfl rfl ?_
          refine wr_gr (k0 := 236) (x := 253) (nx := 32) (r1 := 11) (r2 := 37) (r3 := 0) rfl rfl (by decide) rfl ⟨rfl, rfl⟩ rfl ?_
          refine wi_iload_n (i := 3) (e := x15) (nx := 33) (r1 := 0) (r2 := 0) (r3 := 0) rfl rfl ?_
          obtain ⟨i45, ei45⟩ : ∃ q : Nat, x15 = (q : Int) := ⟨(x15).toNat, by omega⟩
          have b46 := gi_b (lo := 0) (hi := 8) g 253 i45 rfl
          refine wr_ia (k0 := 253) (a := x15) (f := i45) (x := h 253 i45) (nx := 34) (r1 := 0) (r2 := 0) (r3 := 0) rfl (by decide) rfl (by omega) (by omega) (by decide) (u17 253 i45 (fo_nk rfl)) ?_
          refine wi_bipush (n := 7) (nx := 36) (r1 := 0) (r2 := 0) (r3 := 0) rfl (by decide) ?_
          refine wi_icmp (cd := .ne) (nx := 39) (r1 := 67) (r2 := 0) (r3 := 0) rfl (by omega) (by omega) (fun (q47 : (h 253 i45) ≠ 7) => ?_) (fun (q47 : ¬ ((h 253 i45) ≠ 7)) => ?_)
          ·
            refine wi_aload_n (i := 0) (x := 236) (nx := 68) (r1 := 0) (r2 := 0) (r3 := 0) rfl rfl ?_
            refine wr_gr (k0 := 236) (x := 253) (nx := 71) (r1 := 11) (r2 := 37) (r3 := 0) rfl rfl (by decide) rfl ⟨rfl, rfl⟩ rfl ?_
            refine wi_iload_n (i := 3) (e := x15) (nx := 72) (r1 := 0) (r2 := 0) (r3 := 0) rfl rfl ?_
            refine wr_ia (k0 := 253) (a := x15) (f := i45) (x := h 253 i45) (nx := 73) (r1 := 0) (r2 := 0) (r3 := 0) rfl (by decide) rfl (by omega) (by omega) (by decide) (u17 253 i45 (fo_nk rfl)) ?_
            refine wi_bipush (n := 8) (nx := 75) (r1 := 0) (r2 := 0) (r3 := 0) rfl (by decide) ?_
            refine wi_icmp (cd := .ne) (nx := 78) (r1 := 149) (r2 := 0) (r3 := 0) rfl (by omega) (by omega) (fun (q48 : (h 253 i45) ≠ 8) => ?_) (fun (q48 : ¬ ((h 253 i45) ≠ 8)) => ?_)
            ·
              refine wi_aload_n (i := 0) (x := 236) (nx := 150) (r1 := 0) (r2 := 0) (r3 := 0) rfl rfl ?_
              refine wi_aload_n (i := 0) (x := 236) (nx := 151) (r1 := 0) (r2 := 0) (r3 := 0) rfl rfl ?_
              refine wr_gr (k0 := 236) (x := 253) (nx := 154) (r1 := 11) (r2 := 37) (r3 := 0) rfl rfl (by decide) rfl ⟨rfl, rfl⟩ rfl ?_
              refine wi_iload_n (i := 3) (e := x15) (nx := 155) (r1 := 0) (r2 := 0) (r3 := 0) rfl rfl ?_
              refine wr_ia (k0 := 253) (a := x15) (f := i45) (x := h 253 i45) (nx := 156) (r1 := 0) (r2 := 0) (r3 := 0) rfl (by decide) rfl (by omega) (by omega) (by decide) (u17 253 i45 (fo_nk rfl)) ?_
              refine wi_aload_n (i := 0) (x := 236) (nx := 157) (r1 := 0) (r2 := 0) (r3 := 0) rfl rfl ?_
              refine wr_gr (k0 := 236) (x := 254) (nx := 160) (r1 := 11) (r2 := 38) (r3 := 0) rfl rfl (by decide) rfl ⟨rfl, rfl⟩ rfl ?_
              refine wi_iload_n (i := 3) (e := x15) (nx := 161) (r1 := 0) (r2 := 0) (r3 := 0) rfl rfl ?_
              have b49 := gi_b (lo := 0) (hi := 999) g 254 i45 rfl
              refine wr_ia (k0 := 254) (a := x15) (f := i45) (x := h 254 i45) (nx := 162) (r1 := 0) (r2 := 0) (r3 := 0) rfl (by decide) rfl (by omega) (by omega) (by decide) (u17 254 i45 (fo_nk rfl)) ?_
              refine wr_V (k0 := 236) (rest := []) (as := [.ref 236, vi (h 253 i45), vi (h 254 i45)]) (nx := 165) (r1 := 340) (r2 := 2) (r3 := 11) rfl rfl rfl (of_decide_eq_true rfl) rfl rfl (by decide) rfl rfl (of_decide_eq_true rfl) (of_decide_eq_true rfl) ?_
              refine ct_340_236 hcr  g17 (h 253 i45) (h 254 i45) (by omega) (by omega) (show (h17 238 98) + (h17 238 99) + (h17 238 100) + (h17 238 101) + (h17 238 102) + (h17 238 106) = (h17 238 73) by omega) (show (h17 238 73) ≤ (h17 238 2) by omega) (show (h17 238 119) ≤ (h17 238 67) by omega) (show (h17 238 69) ≤ (h17 238 5) by omega) (show (h17 238 2) ≤ 12 * (h17 238 5) by omega) (fun h50 z51 g50 u50 (fz51 : 0 ≤ z51 ∧ z51 ≤ 1) m50_0 (p50_0 : (h50 238 98) + (h50 238 99) + (h50 238 100) + (h50 238 101) + (h50 238 102) + (h50 238 106) = (h50 238 73)) (p50_1 : (h50 238 73) ≤ (h50 238 2)) (p50_2 : (h50 238 119) ≤ (h50 238 67)) (p50_3 : (h50 238 69) ≤ (h50 238 5)) (p50_4 : (h50 238 2) ≤ 12 * (h50 238 5)) => ?_)
              have F52 := F23.then (by decide +kernel) u50
              have F53 := u17.then (by decide +kernel) u50
              have b54 := gi_b (lo := 0) (hi := 6) g50 238 98 rfl
              have b55 := gi_b (lo := 0) (hi := 6) g50 238 99 rfl
              have b56 := gi_b (lo := 0) (hi := 6) g50 238 100 rfl
              have b57 := gi_b (lo := 0) (hi := 6) g50 238 101 rfl
              have b58 := gi_b (lo := 0) (hi := 3) g50 238 102 rfl
              have b59 := gi_b (lo := 0) (hi := 12) g50 238 106 rfl
              have b60 := gi_b (lo := 0) (hi := 12) g50 238 73 rfl
              have e61 : h50 238 2 = h 238 2 := ((u50 238 2 rfl).trans (u17 238 2 rfl))
              have b62 := gi_b (lo := 0) (hi := 9999) g50 238 119 rfl
              have b63 := gi_b (lo := 0) (hi := 9999) g50 238 67 rfl
              have b64 := gi_b (lo := 0) (hi := 9) g50 238 69 rfl
              have e65 : h50 238 5 = h 238 5 := ((u50 238 5 rfl).trans (u17 238 5 rfl))
              refine wk_i ?_
              refine wi_istore (i := 4) (e := z51) (lo2 := [(4, vi z51), (0, .ref 236), (1, vi x13), (2, vi 2), (3, vi x15)]) (nx := 167) (r1 := 0) (r2 := 0) (r3 := 0) rfl rfl ?_
              refine wi_iload_n (i := 1) (e := x13) (nx := 168) (r1 := 0) (r2 := 0) (r3 := 0) rfl rfl ?_
              refine wi_iload (i := 4) (e := z51) (nx := 170) (r1 := 0) (r2 := 0) (r3 := 0) rfl rfl ?_
              refine wi_S (rest := [vi x13]) (as := [vi z51]) (nx := 173) (r1 := 207) (r2 := 17) (r3 := 0) rfl rfl rfl (of_decide_eq_true rfl) rfl rfl (of_decide_eq_true rfl) (of_decide_eq_true rfl) ?_
              refine wi_iload_n (i := 0) (e := z51) (nx := 1) (r1 := 0) (r2 := 0) (r3 := 0) rfl rfl ?_
              refine wi_if (cd := .eq) (nx := 4) (r1 := 8) (r2 := 0) (r3 := 0) rfl (by omega) (fun (q66 : z51 = 0) => ?_) (fun (q66 : ¬ (z51 = 0)) => ?_)
              ·
                have f67 : 0 ≤ (h 253 i45) ∧ (h 253 i45) ≤ 5 := m50_0 (by omega)
                refine wi_iconst (n := 0) (nx := 9) (r1 := 0) (r2 := 0) (r3 := 0) rfl ?_
                refine wi_ireturn (nx := 10) (r1 := 0) (r2 := 0) (r3 := 0) rfl rfl ?_
                refine wk_i ?_
                refine wr_add (nx := 174) (r1 := 0) (r2 := 0) (r3 := 0) rfl (fun e68 (fe68 : e68 = x13 + 0) => ?_)
                refine wi_istore_n (i := 1) (e := e68) (lo2 := [(1, vi e68), (4, vi z51), (0, .ref 236), (2, vi 2), (3, vi x15)]) (nx := 175) (r1 := 0) (r2 := 0) (r3 := 0) rfl rfl ?_
                refine wr_iinc (i := 3) (n := 1) (v := x15) (fun e69 => [(3, vi e69), (1, vi e68), (4, vi z51), (0, .ref 236), (2, vi 2)]) (nx := 178) (r1 := 0) (r2 := 0) (r3 := 0) rfl rfl (fun _ => rfl) (fun e69 (fe69 : e69 = x15 + 1) => ?_)
                refine wi_goto (nx := 181) (r1 := 9) (r2 := 0) (r3 := 0) rfl ?_
                have e70 : h50 236 42 = h 236 42 := ((u50 236 42 rfl).trans (u17 236 42 rfl))
                have e71 : h50 255 0 = h17 255 0 := (u50 255 0 rfl)
                have e72 : h50 256 0 = h17 256 0 := (u50 256 0 rfl)
                have e73 : h50 255 1 = h17 255 1 := (u50 255 1 rfl)
                have e74 : h50 256 1 = h17 256 1 := (u50 256 1 rfl)
                refine wp.lo (lo := [(0, .ref 236), (1, vi e68), (2, vi 2), (3, vi e69), (4, vi z51)]) ⟨rfl, rfl, rfl, rfl, rfl, trivial⟩ rfl ?_
                have q75 : h50 255 = h17 255 := funext (fun i => (u50 255 i (fo_no_ok (by decide) i)))
                have q76 : h50 256 = h17 256 := funext (fun i => (u50 256 i (fo_no_ok (by decide) i)))
                have c77 : h17 253 i45 = h 253 i45 := (u17 253 i45 (fo_nk rfl))
                exact I17 e68 2 e69 z51 h50 ⟨g50, F52, F53, (show (0 ≤ e68 ∧ e68 ≤ 100) ∧ (0 ≤ 2 ∧ 2 ≤ 2) ∧ (0 ≤ e69 ∧ e69 ≤ 80) ∧ (0 ≤ z51 ∧ z51 ≤ 1) ∧ (e69 ≤ (h50 236 42)) ∧ ((h50 238 98) + (h50 238 99) + (h50 238 100) + (h50 238 101) + (h50 238 102) + (h50 238 106) = (h50 238 73)) ∧ ((h50 238 73) ≤ (h50 238 2)) ∧ ((h50 238 119) ≤ (h50 238 67)) ∧ ((h50 238 69) ≤ (h50 238 5)) ∧ ((h50 238 2) ≤ 12 * (h50 238 5)) by omega), (by rw [q75, q76]; exact BG.com X17_0 (by omega) (by rw [show (x15).toNat = i45 by omega]; omega) (by rw [show (x15).toNat = i45 by omega]; omega) (by omega) (by omega))⟩ (show (muS z51 2 e69 (h50 255 0) (h50 256 0) (h50 255 1) (h50 256 1)).toNat < (muS x16 x14 x15 (h17 255 0) (h17 256 0) (h17 255 1) (h17 256 1)).toNat by (unfold muS; (repeat' split) <;> omega))
              ·
                refine wi_iconst (n := 1) (nx := 5) (r1 := 0) (r2 := 0) (r3 := 0) rfl ?_
                refine wi_goto (nx := 8) (r1 := 9) (r2 := 0) (r3 := 0) rfl ?_
                refine wi_ireturn (nx := 10) (r1 := 0) (r2 := 0) (r3 := 0) rfl rfl ?_
                refine wk_i ?_
                refine wr_add (nx := 174) (r1 := 0) (r2 := 0) (r3 := 0) rfl (fun e67 (fe67 : e67 = x13 + 1) => ?_)
                refine wi_istore_n (i := 1) (e := e67) (lo2 := [(1, vi e67), (4, vi z51), (0, .ref 236), (2, vi 2), (3, vi x15)]) (nx := 175) (r1 := 0) (r2 := 0) (r3 := 0) rfl rfl ?_
                refine wr_iinc (i := 3) (n := 1) (v := x15) (fun e68 => [(3, vi e68), (1, vi e67), (4, vi z51), (0, .ref 236), (2, vi 2)]) (nx := 178) (r1 := 0) (r2 := 0) (r3 := 0) rfl rfl (fun _ => rfl) (fun e68 (fe68 : e68 = x15 + 1) => ?_)
                refine wi_goto (nx := 181) (r1 := 9) (r2 := 0) (r3 := 0) rfl ?_
                have e69 : h50 236 42 = h 236 42 := ((u50 236 42 rfl).trans (u17 236 42 rfl))
                have e70 : h50 255 0 = h17 255 0 := (u50 255 0 rfl)
                have e71 : h50 256 0 = h17 256 0 := (u50 256 0 rfl)
                have e72 : h50 255 1 = h17 255 1 := (u50 255 1 rfl)
                have e73 : h50 256 1 = h17 256 1 := (u50 256 1 rfl)
                refine wp.lo (lo := [(0, .ref 236), (1, vi e67), (2, vi 2), (3, vi e68), (4, vi z51)]) ⟨rfl, rfl, rfl, rfl, rfl, trivial⟩ rfl ?_
                have q74 : h50 255 = h17 255 := funext (fun i => (u50 255 i (fo_no_ok (by decide) i)))
                have q75 : h50 256 = h17 256 := funext (fun i => (u50 256 i (fo_no_ok (by decide) i)))
                have c76 : h17 253 i45 = h 253 i45 := (u17 253 i45 (fo_nk rfl))
                exact I17 e67 2 e68 z51 h50 ⟨g50, F52, F53, (show (0 ≤ e67 ∧ e67 ≤ 100) ∧ (0 ≤ 2 ∧ 2 ≤ 2) ∧ (0 ≤ e68 ∧ e68 ≤ 80) ∧ (0 ≤ z51 ∧ z51 ≤ 1) ∧ (e68 ≤ (h50 236 42)) ∧ ((h50 238 98) + (h50 238 99) + (h50 238 100) + (h50 238 101) + (h50 238 102) + (h50 238 106) = (h50 238 73)) ∧ ((h50 238 73) ≤ (h50 238 2)) ∧ ((h50 238 119) ≤ (h50 238 67)) ∧ ((h50 238 69) ≤ (h50 238 5)) ∧ ((h50 238 2) ≤ 12 * (h50 238 5)) by omega), (by rw [q74, q75]; exact BG.com X17_0 (by omega) (by rw [show (x15).toNat = i45 by omega]; omega) (by rw [show (x15).toNat = i45 by omega]; omega) (by omega) (by omega))⟩ (show (muS z51 2 e68 (h50 255 0) (h50 256 0) (h50 255 1) (h50 256 1)).toNat < (muS x16 x14 x15 (h17 255 0) (h17 256 0) (h17 255 1) (h17 256 1)).toNat by (unfold muS; (repeat' split) <;> omega))
            ·
              have c50 : h17 253 i45 = h 253 i45 := (u17 253 i45 (fo_nk rfl))
              have d498 : h 253 (x15).toNat = 8 := by rw [show (x15).toNat = i45 by omega]; omega
              have d49d := dep_8 d498
              have d49w := xq0.2.1 ((x15).toNat + 1) (by omega)
              have d49x := X17_0.1
              have d49b := X17_0.2.1 (by omega)
              have d49b1 : 0 ≤ h17 255 0 := d49b.1
              have d49b2 : h17 255 0 < x15 := d49b.2.1
              have d49b5 : 0 ≤ h17 256 0 := d49b.2.2.2.2
              have d49c := X17_0.2.2 (by omega)
              have d49c1 : h17 255 0 < h17 255 1 := d49c.1
              have d49c2 : h17 255 1 < x15 := d49c.2.1
              have d49c5 : 0 ≤ h17 256 1 := d49c.2.2.2.2
              refine wi_aload_n (i := 0) (x := 236) (nx := 79) (r1 := 0) (r2 := 0) (r3 := 0) rfl rfl ?_
              refine wr_gr (k0 := 236) (x := 256) (nx := 82) (r1 := 11) (r2 := 40) (r3 := 0) rfl rfl (by decide) rfl ⟨rfl, rfl⟩ rfl ?_
              refine wi_iload_n (i := 2) (e := 2) (nx := 83) (r1 := 0) (r2 := 0) (r3 := 0) rfl rfl ?_
              refine wi_iconst (n := 1) (nx := 84) (r1 := 0) (r2 := 0) (r3 := 0) rfl ?_
              refine wr_subL (1) (nx := 85) (r1 := 0) (r2 := 0) (r3 := 0) rfl (by decide) ?_
              refine wi_dup2 (nx := 86) (r1 := 0) (r2 := 0) (r3 := 0) rfl rfl rfl ?_
              refine wr_ia (k0 := 256) (a := 1) (f := 1) (x := h17 256 1) (nx := 87) (r1 := 0) (r2 := 0) (r3 := 0) rfl (by decide) rfl (by omega) (by omega) (by decide) rfl ?_
              refine wi_iconst (n := 1) (nx := 88) (r1 := 0) (r2 := 0) (r3 := 0) rfl ?_
              refine wr_sub (nx := 89) (r1 := 0) (r2 := 0) (r3 := 0) rfl (fun e51 (fe51 : e51 = (h17 256 1) - 1) => ?_)
              refine wr_is (k0 := 256) (a := 1) (f := 1) (x := e51) (bl := -1) (bh := 999) (nx := 90) (r1 := 0) (r2 := 0) (r3 := 0) rfl (by decide) rfl (by omega) (by omega) (by decide) g17 rfl (by omega) (fun h52 g52 w52 u52 => ?_)
              have F53 := F23.then rfl u52
              have F54 := u17.then rfl u52
              refine wi_aload_n (i := 0) (x := 236) (nx := 91) (r1 := 0) (r2 := 0) (r3 := 0) rfl rfl ?_
              refine wr_gr (k0 := 236) (x := 256) (nx := 94) (r1 := 11) (r2 := 40) (r3 := 0) rfl rfl (by decide) rfl ⟨rfl, rfl⟩ rfl ?_
              refine wi_iload_n (i := 2) (e := 2) (nx := 95) (r1 := 0) (r2 := 0) (r3 := 0) rfl rfl ?_
              refine wi_iconst (n := 1) (nx := 96) (r1 := 0) (r2 := 0) (r3 := 0) rfl ?_
              refine wr_subL (1) (nx := 97) (r1 := 0) (r2 := 0) (r3 := 0) rfl (by decide) ?_
              refine wr_ia (k0 := 256) (a := 1) (f := 1) (x := e51) (nx := 98) (r1 := 0) (r2 := 0) (r3 := 0) rfl (by decide) rfl (by omega) (by omega) (by decide) w52 ?_
              refine wi_if (cd := .le) (nx := 101) (r1 := 105) (r2 := 0) (r3 := 0) rfl (by omega) (fun (q55 : e51 ≤ 0) => ?_) (fun (q55 : ¬ (e51 ≤ 0)) => ?_)
              ·
                refine wi_iconst (n := 0) (nx := 106) (r1 := 0) (r2 := 0) (r3 := 0) rfl ?_
                refine wi_istore (i := 5) (e := 0) (lo2 := [(5, vi 0), (0, .ref 236), (1, vi x13), (2, vi 2), (3, vi x15), (4, vi x16)]) (nx := 108) (r1 := 0) (r2 := 0) (r3 := 0) rfl rfl ?_
                refine wi_iload (i := 5) (e := 0) (nx := 110) (r1 := 0) (r2 := 0) (r3 := 0) rfl rfl ?_
                refine wi_if (cd := .eq) (nx := 113) (r1 := 126) (r2 := 0) (r3 := 0) rfl (by omega) (fun (q56 : 0 = 0) => ?_) (fun (q56 : ¬ (0 = 0)) => by exfalso; omega)
                refine wi_iload_n (i := 3) (e := x15) (nx := 127) (r1 := 0) (r2 := 0) (r3 := 0) rfl rfl ?_
                refine wi_iconst (n := 1) (nx := 128) (r1 := 0) (r2 := 0) (r3 := 0) rfl ?_
                refine wr_add (nx := 129) (r1 := 0) (r2 := 0) (r3 := 0) rfl (fun e57 (fe57 : e57 = x15 + 1) => ?_)
                refine wi_istore_n (i := 3) (e := e57) (lo2 := [(3, vi e57), (5, vi 0), (0, .ref 236), (1, vi x13), (2, vi 2), (4, vi x16)]) (nx := 130) (r1 := 0) (r2 := 0) (r3 := 0) rfl rfl ?_
                refine wi_iload_n (i := 2) (e := 2) (nx := 131) (r1 := 0) (r2 := 0) (r3 := 0) rfl rfl ?_
                refine wi_iload (i := 5) (e := 0) (nx := 133) (r1 := 0) (r2 := 0) (r3 := 0) rfl rfl ?_
                refine wi_if (cd := .ne) (nx := 136) (r1 := 140) (r2 := 0) (r3 := 0) rfl (by omega) (fun (q58 : 0 ≠ 0) => by exfalso; omega) (fun (q58 : ¬ (0 ≠ 0)) => ?_)
                refine wi_iconst (n := 1) (nx := 137) (r1 := 0) (r2 := 0) (r3 := 0) rfl ?_
                refine wi_goto (nx := 140) (r1 := 141) (r2 := 0) (r3 := 0) rfl ?_
                refine wi_S (rest := [vi 2]) (as := [vi 1]) (nx := 144) (r1 := 207) (r2 := 17) (r3 := 0) rfl rfl rfl (of_decide_eq_true rfl) rfl rfl (of_decide_eq_true rfl) (of_decide_eq_true rfl) ?_
                refine wi_iload_n (i := 0) (e := 1) (nx := 1) (r1 := 0) (r2 := 0) (r3 := 0) rfl rfl ?_
                refine wi_if (cd := .eq) (nx := 4) (r1 := 8) (r2 := 0) (r3 := 0) rfl (by omega) (fun (q59 : 1 = 0) => by exfalso; omega) (fun (q59 : ¬ (1 = 0)) => ?_)
                refine wi_iconst (n := 1) (nx := 5) (r1 := 0) (r2 := 0) (r3 := 0) rfl ?_
                refine wi_goto (nx := 8) (r1 := 9) (r2 := 0) (r3 := 0) rfl ?_
                refine wi_ireturn (nx := 10) (r1 := 0) (r2 := 0) (r3 := 0) rfl rfl ?_
                refine wk_i ?_
                refine wr_subL (1) (nx := 145) (r1 := 0) (r2 := 0) (r3 := 0) rfl (by decide) ?_
                refine wi_istore_n (i := 2) (e := 1) (lo2 := [(2, vi 1), (3, vi e57), (5, vi 0), (0, .ref 236), (1, vi x13), (4, vi x16)]) (nx := 146) (r1 := 0) (r2 := 0) (r3 := 0) rfl rfl ?_
                refine wi_goto (nx := 149) (r1 := 9) (r2 := 0) (r3 := 0) rfl ?_
                have e60 : h52 236 42 = h 236 42 := ((u52 236 42 rfl).trans (u17 236 42 rfl))
                have e61 : h52 238 98 = h17 238 98 := (u52 238 98 rfl)
                have e62 : h52 238 99 = h17 238 99 := (u52 238 99 rfl)
                have e63 : h52 238 100 = h17 238 100 := (u52 238 100 rfl)
                have e64 : h52 238 101 = h17 238 101 := (u52 238 101 rfl)
                have e65 : h52 238 102 = h17 238 102 := (u52 238 102 rfl)
                have e66 : h52 238 106 = h17 238 106 := (u52 238 106 rfl)
                have e67 : h52 238 73 = h17 238 73 := (u52 238 73 rfl)
                have e68 : h52 238 2 = h 238 2 := ((u52 238 2 rfl).trans (u17 238 2 rfl))
                have e69 : h52 238 119 = h17 238 119 := (u52 238 119 rfl)
                have e70 : h52 238 67 = h17 238 67 := (u52 238 67 rfl)
                have e71 : h52 238 69 = h17 238 69 := (u52 238 69 rfl)
                have e72 : h52 238 5 = h 238 5 := ((u52 238 5 rfl).trans (u17 238 5 rfl))
                have e73 : h52 255 0 = h17 255 0 := (u52 255 0 rfl)
                have e74 : h52 256 0 = h17 256 0 := (u52 256 0 rfl)
                have e75 : h52 255 1 = h17 255 1 := (u52 255 1 rfl)
                have e76 : h52 256 1 = e51 := w52
                refine wp.lo (lo := [(0, .ref 236), (1, vi x13), (2, vi 1), (3, vi e57), (4, vi x16)]) ⟨rfl, rfl, rfl, rfl, rfl, trivial⟩ rfl ?_
                exact I17 x13 1 e57 x16 h52 ⟨g52, F53, F54, (show (0 ≤ x13 ∧ x13 ≤ 100) ∧ (0 ≤ 1 ∧ 1 ≤ 2) ∧ (0 ≤ e57 ∧ e57 ≤ 80) ∧ (0 ≤ x16 ∧ x16 ≤ 1) ∧ (e57 ≤ (h52 236 42)) ∧ ((h52 238 98) + (h52 238 99) + (h52 238 100) + (h52 238 101) + (h52 238 102) + (h52 238 106) = (h52 238 73)) ∧ ((h52 238 73) ≤ (h52 238 2)) ∧ ((h52 238 119) ≤ (h52 238 67)) ∧ ((h52 238 69) ≤ (h52 238 5)) ∧ ((h52 238 2) ≤ 12 * (h52 238 5)) by omega), (BG.fin X17_0 (by omega) d498 (by omega) (by omega) (by omega) (by omega) (fun _ => by omega))⟩ (show (muS x16 1 e57 (h52 255 0) (h52 256 0) (h52 255 1) (h52 256 1)).toNat < (muS x16 x14 x15 (h17 255 0) (h17 256 0) (h17 255 1) (h17 256 1)).toNat by (unfold muS; (repeat' split) <;> omega))
              ·
                refine wi_iconst (n := 1) (nx := 102) (r1 := 0) (r2 := 0) (r3 := 0) rfl ?_
                refine wi_goto (nx := 105) (r1 := 106) (r2 := 0) (r3 := 0) rfl ?_
                refine wi_istore (i := 5) (e := 1) (lo2 := [(5, vi 1), (0, .ref 236), (1, vi x13), (2, vi 2), (3, vi x15), (4, vi x16)]) (nx := 108) (r1 := 0) (r2 := 0) (r3 := 0) rfl rfl ?_
                refine wi_iload (i := 5) (e := 1) (nx := 110) (r1 := 0) (r2 := 0) (r3 := 0) rfl rfl ?_
                refine wi_if (cd := .eq) (nx := 113) (r1 := 126) (r2 := 0) (r3 := 0) rfl (by omega) (fun (q56 : 1 = 0) => by exfalso; omega) (fun (q56 : ¬ (1 = 0)) => ?_)
                refine wi_aload_n (i := 0) (x := 236) (nx := 114) (r1 := 0) (r2 := 0) (r3 := 0) rfl rfl ?_
                refine wr_gr (k0 := 236) (x := 255) (nx := 117) (r1 := 11) (r2 := 39) (r3 := 0) rfl rfl (by decide) rfl ⟨rfl, rfl⟩ rfl ?_
                refine wi_iload_n (i := 2) (e := 2) (nx := 118) (r1 := 0) (r2 := 0) (r3 := 0) rfl rfl ?_
                refine wi_iconst (n := 1) (nx := 119) (r1 := 0) (r2 := 0) (r3 := 0) rfl ?_
                refine wr_subL (1) (nx := 120) (r1 := 0) (r2 := 0) (r3 := 0) rfl (by decide) ?_
                refine wr_ia (k0 := 255) (a := 1) (f := 1) (x := h17 255 1) (nx := 121) (r1 := 0) (r2 := 0) (r3 := 0) rfl (by decide) rfl (by omega) (by omega) (by decide) (u52 255 1 rfl) ?_
                refine wi_iconst (n := 1) (nx := 122) (r1 := 0) (r2 := 0) (r3 := 0) rfl ?_
                refine wr_add (nx := 123) (r1 := 0) (r2 := 0) (r3 := 0) rfl (fun e57 (fe57 : e57 = (h17 255 1) + 1) => ?_)
                refine wi_goto (nx := 126) (r1 := 129) (r2 := 0) (r3 := 0) rfl ?_
                refine wi_istore_n (i := 3) (e := e57) (lo2 := [(3, vi e57), (5, vi 1), (0, .ref 236), (1, vi x13), (2, vi 2), (4, vi x16)]) (nx := 130) (r1 := 0) (r2 := 0) (r3 := 0) rfl rfl ?_
                refine wi_iload_n (i := 2) (e := 2) (nx := 131) (r1 := 0) (r2 := 0) (r3 := 0) rfl rfl ?_
                refine wi_iload (i := 5) (e := 1) (nx := 133) (r1 := 0) (r2 := 0) (r3 := 0) rfl rfl ?_
                refine wi_if (cd := .ne) (nx := 136) (r1 := 140) (r2 := 0) (r3 := 0) rfl (by omega) (fun (q58 : 1 ≠ 0) => ?_) (fun (q58 : ¬ (1 ≠ 0)) => by exfalso; omega)
                refine wi_iconst (n := 0) (nx := 141) (r1 := 0) (r2 := 0) (r3 := 0) rfl ?_
                refine wi_S (rest := [vi 2]) (as := [vi 0]) (nx := 144) (r1 := 207) (r2 := 17) (r3 := 0) rfl rfl rfl (of_decide_eq_true rfl) rfl rfl (of_decide_eq_true rfl) (of_decide_eq_true rfl) ?_
                refine wi_iload_n (i := 0) (e := 0) (nx := 1) (r1 := 0) (r2 := 0) (r3 := 0) rfl rfl ?_
                refine wi_if (cd := .eq) (nx := 4) (r1 := 8) (r2 := 0) (r3 := 0) rfl (by omega) (fun (q59 : 0 = 0) => ?_) (fun (q59 : ¬ (0 = 0)) => by exfalso; omega)
                refine wi_iconst (n := 0) (nx := 9) (r1 := 0) (r2 := 0) (r3 := 0) rfl ?_
                refine wi_ireturn (nx := 10) (r1 := 0) (r2 := 0) (r3 := 0) rfl rfl ?_
                refine wk_i ?_
                refine wr_subL (2) (nx := 145) (r1 := 0) (r2 := 0) (r3 := 0) rfl (by decide) ?_
                refine wi_istore_n (i := 2) (e := 2) (lo2 := [(2, vi 2), (3, vi e57), (5, vi 1), (0, .ref 236), (1, vi x13), (4, vi x16)]) (nx := 146) (r1 := 0) (r2 := 0) (r3 := 0) rfl rfl ?_
                refine wi_goto (nx := 149) (r1 := 9) (r2 := 0) (r3 := 0) rfl ?_
                have e60 : h52 236 42 = h 236 42 := ((u52 236 42 rfl).trans (u17 236 42 rfl))
                have e61 : h52 238 98 = h17 238 98 := (u52 238 98 rfl)
                have e62 : h52 238 99 = h17 238 99 := (u52 238 99 rfl)
                have e63 : h52 238 100 = h17 238 100 := (u52 238 100 rfl)
                have e64 : h52 238 101 = h17 238 101 := (u52 238 101 rfl)
                have e65 : h52 238 102 = h17 238 102 := (u52 238 102 rfl)
                have e66 : h52 238 106 = h17 238 106 := (u52 238 106 rfl)
                have e67 : h52 238 73 = h17 238 73 := (u52 238 73 rfl)
                have e68 : h52 238 2 = h 238 2 := ((u52 238 2 rfl).trans (u17 238 2 rfl))
                have e69 : h52 238 119 = h17 238 119 := (u52 238 119 rfl)
                have e70 : h52 238 67 = h17 238 67 := (u52 238 67 rfl)
                have e71 : h52 238 69 = h17 238 69 := (u52 238 69 rfl)
                have e72 : h52 238 5 = h 238 5 := ((u52 238 5 rfl).trans (u17 238 5 rfl))
                have e73 : h52 255 0 = h17 255 0 := (u52 255 0 rfl)
                have e74 : h52 256 0 = h17 256 0 := (u52 256 0 rfl)
                have e75 : h52 255 1 = h17 255 1 := (u52 255 1 rfl)
                have e76 : h52 256 1 = e51 := w52
                refine wp.lo (lo := [(0, .ref 236), (1, vi x13), (2, vi 2), (3, vi e57), (4, vi x16)]) ⟨rfl, rfl, rfl, rfl, rfl, trivial⟩ rfl ?_
                exact I17 x13 2 e57 x16 h52 ⟨g52, F53, F54, (show (0 ≤ x13 ∧ x13 ≤ 100) ∧ (0 ≤ 2 ∧ 2 ≤ 2) ∧ (0 ≤ e57 ∧ e57 ≤ 80) ∧ (0 ≤ x16 ∧ x16 ≤ 1) ∧ (e57 ≤ (h52 236 42)) ∧ ((h52 238 98) + (h52 238 99) + (h52 238 100) + (h52 238 101) + (h52 238 102) + (h52 238 106) = (h52 238 73)) ∧ ((h52 238 73) ≤ (h52 238 2)) ∧ ((h52 238 119) ≤ (h52 238 67)) ∧ ((h52 238 69) ≤ (h52 238 5)) ∧ ((h52 238 2) ≤ 12 * (h52 238 5)) by omega), (BG.again2 X17_0 (by omega) (by omega) (by omega) (by omega) (by omega) (by omega) (by omega))⟩ (show (muS x16 2 e57 (h52 255 0) (h52 256 0) (h52 255 1) (h52 256 1)).toNat < (muS x16 x14 x15 (h17 255 0) (h17 256 0) (h17 255 1) (h17 256 1)).toNat by (unfold muS; (repeat' split) <;> omega))
          ·
            have c49 : h17 253 i45 = h 253 i45 := (u17 253 i45 (fo_nk rfl))
            have d487 : h 253 (x15).toNat = 7 := by rw [show (x15).toNat = i45 by omega]; omega
            have d48d := dep_7 d487
            have d48w := xq0.2.1 ((x15).toNat + 1) (by omega)
            have d48x := X17_0.1
            exfalso; omega
-- method 238: Model.copies([I[I)V
set_option maxRecDepth 100000 in
set_option maxHeartbeats 100000000 in
theorem ct_238_257_240 {L : Nat} {xs : Nat → Int32} {d b c : Nat} {h : hp} {cr : Nat → Nat → Option Nat} {Q : hp_Q} (hcr : CR cr)  (g : GI h)    (k : ∀ (h2 : hp) , GI h2 → FR [(240, 240, none)] h h2 → (∀ q : Nat, q < 200 → h2 240 q = h 257 q) → Q (.inl none) (hp_w h2 cr) b c) : wp (md_xa (L, xs)) d 238 (0, [(0, .ref 257), (1, .ref 240)], [], hp_w h cr, b, c) Q := by
  have F0 : FR [(240, 240, none)] h h := FR.refl
  refine wi_iconst (n := 0) (nx := 1) (r1 := 0) (r2 := 0) (r3 := 0) rfl ?_
  refine wi_istore_n (i := 2) (e := 0) (lo2 := [(2, vi 0), (0, .ref 257), (1, .ref 240)]) (nx := 2) (r1 := 0) (r2 := 0) (r3 := 0) rfl rfl ?_
  refine wp.lo (lo := [(0, .ref 257), (1, .ref 240), (2, vi 0)]) ⟨rfl, rfl, rfl, trivial⟩ rfl ?_
  refine wl_1 (fun x1 h2 => GI h2 ∧ FR [(240, 240, none)] h h2 ∧ FR [(240, 240, none)] h h2 ∧ ((0 ≤ x1 ∧ x1 ≤ 200)) ∧ (∀ q : Nat, (q : Int) < x1 → h2 240 q = h 257 q) ∧ (∀ q : Nat, x1 ≤ (q : Int) → h2 240 q = h 240 q)) (fun x1 h2 => ((200 : Int) + 1 - x1).toNat) (fun x1 h2 => (2, [(0, .ref 257), (1, .ref 240), (2, vi x1)], [], hp_w h2 cr, b, c)) ?_ 0 h ⟨g, F0, FR.refl, (show (0 ≤ 0 ∧ 0 ≤ 200) by omega), (fun q e => absurd e (by omega)), (fun _ _ => rfl)⟩
  intro x1 h2 ⟨g2, F3, u2, f2, XA2, XB2⟩ I2
  refine wi_iload_n (i := 2) (e := x1) (nx := 3) (r1 := 0) (r2 := 0) (r3 := 0) rfl rfl ?_
  refine wi_sipush (n := 200) (nx := 6) (r1 := 0) (r2 := 0) (r3 := 0) rfl (by decide) ?_
  refine wi_icmp (cd := .ge) (nx := 9) (r1 := 21) (r2 := 0) (r3 := 0) rfl (by omega) (by omega) (fun (q4 : 200 ≤ x1) => ?_) (fun (q4 : ¬ (200 ≤ x1)) => ?_)
  ·
    refine wi_return (nx := 22) (r1 := 0) (r2 := 0) (r3 := 0) rfl rfl ?_
    exact k h2 g2 F3 (fun q e => XA2 q (by omega))
  ·
    refine wi_aload_n (i := 1) (x := 240) (nx := 10) (r1 := 0) (r2 := 0) (r3 := 0) rfl rfl ?_
    refine wi_iload_n (i := 2) (e := x1) (nx := 11) (r1 := 0) (r2 := 0) (r3 := 0) rfl rfl ?_
    refine wi_aload_n (i := 0) (x := 257) (nx := 12) (r1 := 0) (r2 := 0) (r3 := 0) rfl rfl ?_
    refine wi_iload_n (i := 2) (e := x1) (nx := 13) (r1 := 0) (r2 := 0) (r3 := 0) rfl rfl ?_
    obtain ⟨i5, ei5⟩ : ∃ q : Nat, x1 = (q : Int) := ⟨(x1).toNat, by omega⟩
    refine wr_ia (k0 := 257) (a := x1) (f := i5) (x := h 257 i5) (nx := 14) (r1 := 0) (r2 := 0) (r3 := 0) rfl (by decide) rfl (by omega) (by omega) (by decide) (u2 257 i5 (fn_a (by decide) fn_0)) ?_
    refine wr_iv (k0 := 240) (a := x1) (f := i5) (x := h 257 i5) (nx := 15) (r1 := 0) (r2 := 0) (r3 := 0) rfl (by decide) rfl (by omega) (by omega) (by decide) g2 (g 257 i5) (fun h6 g6 w6 u6 => ?_)
    have F7 := F3.then rfl (FR.rngp (lo := 240) (hi := 240) u6 (by decide))
    have F8 := u2.then rfl (FR.rngp (lo := 240) (hi := 240) u6 (by decide))
    refine wr_iinc (i := 2) (n := 1) (v := x1) (fun e9 => [(2, vi e9), (0, .ref 257), (1, .ref 240)]) (nx := 18) (r1 := 0) (r2 := 0) (r3 := 0) rfl rfl (fun _ => rfl) (fun e9 (fe9 : e9 = x1 + 1) => ?_)
    refine wi_goto (nx := 21) (r1 := 2) (r2 := 0) (r3 := 0) rfl ?_
    refine wp.lo (lo := [(0, .ref 257), (1, .ref 240), (2, vi e9)]) ⟨rfl, rfl, rfl, trivial⟩ rfl ?_
    exact I2 e9 h6 ⟨g6, F7, F8, (show (0 ≤ e9 ∧ e9 ≤ 200) by omega), (fun q e => by
        by_cases e1 : (q : Int) < x1
        · exact (u6 240 _ (fn_i (by omega) fn_0)).trans (XA2 q e1)
        · have e2 : q = i5 := by omega
          have e3 : q = i5 := by omega
          exact (congrArg (h6 240) e2).trans (w6.trans ((Eq.refl _).trans (congrArg (h 257) e3).symm))), (fun q e => (u6 240 q (fn_i (by omega) fn_0)).trans (XB2 q (by omega)))⟩ (show ((200 : Int) + 1 - e9).toNat < ((200 : Int) + 1 - x1).toNat by omega)
-- method 315: Model.keepsAside()V
set_option maxRecDepth 100000 in
set_option maxHeartbeats 100000000 in
theorem ct_315_236 {L : Nat} {xs : Nat → Int32} {d b c : Nat} {h : hp} {cr : Nat → Nat → Option Nat} {Q : hp_Q} (hcr : CR cr)  (g : GI h)   (pp0 : h 238 98 + h 238 99 + h 238 100 + h 238 101 + h 238 102 + h 238 106 = h 238 73) (pp1 : h 238 73 ≤ h 238 2) (pp2 : h 238 119 ≤ h 238 67) (pp3 : h 238 69 ≤ h 238 5) (pp4 : h 238 2 ≤ 12 * h 238 5) (pp5 : h 240 98 + h 240 99 + h 240 100 + h 240 101 + h 240 102 + h 240 106 = h 240 73) (pp6 : h 240 73 ≤ h 240 2) (pp7 : h 240 119 ≤ h 240 67) (pp8 : h 240 69 ≤ h 240 5) (pp9 : h 240 2 ≤ 12 * h 240 5) (xq0 : GPS h) (xq1 : ∀ i : Nat, i < 31 → h 240 i = h 238 i) (gp0 : GPH h) (k : ∀ (h2 : hp) , GI h2 → FR [(242, 242, none), (236, 236, some (22, 22))] h h2 → (GPS h2) → (GPH h2) → Q (.inl none) (hp_w h2 cr) b c) : wp (md_xa (L, xs)) (d + 1) 315 (0, [(0, .ref 236)], [], hp_w h cr, b, c) Q := by
  have F0 : FR [(242, 242, none), (236, 236, some (22, 22))] h h := FR.refl
  have b1 := gi_b (lo := 0) (hi := 6) g 238 98 rfl
  have b2 := gi_b (lo := 0) (hi := 6) g 238 99 rfl
  have b3 := gi_b (lo := 0) (hi := 6) g 238 100 rfl
  have b4 := gi_b (lo := 0) (hi := 6) g 238 101 rfl
  have b5 := gi_b (lo := 0) (hi := 3) g 238 102 rfl
  have b6 := gi_b (lo := 0) (hi := 12) g 238 106 rfl
  have b7 := gi_b (lo := 0) (hi := 12) g 238 73 rfl
  have b8 := gi_b (lo := 0) (hi := 12) g 238 2 rfl
  have b9 := gi_b (lo := 0) (hi := 9999) g 238 119 rfl
  have b10 := gi_b (lo := 0) (hi := 9999) g 238 67 rfl
  have b11 := gi_b (lo := 0) (hi := 9) g 238 69 rfl
  have b12 := gi_b (lo := 0) (hi := 9) g 238 5 rfl
  have b13 := gi_b (lo := 0) (hi := 6) g 240 98 rfl
  have b14 := gi_b (lo := 0) (hi := 6) g 240 99 rfl
  have b15 := gi_b (lo := 0) (hi := 6) g 240 100 rfl
  have b16 := gi_b (lo := 0) (hi := 6) g 240 101 rfl
  have b17 := gi_b (lo := 0) (hi := 3) g 240 102 rfl
  have b18 := gi_b (lo := 0) (hi := 12) g 240 106 rfl
  have b19 := gi_b (lo := 0) (hi := 12) g 240 73 rfl
  have b20 := gi_b (lo := 0) (hi := 12) g 240 2 rfl
  have b21 := gi_b (lo := 0) (hi := 9999) g 240 119 rfl
  have b22 := gi_b (lo := 0) (hi := 9999) g 240 67 rfl
  have b23 := gi_b (lo := 0) (hi := 9) g 240 69 rfl
  have b24 := gi_b (lo := 0) (hi := 9) g 240 5 rfl
  refine wi_aload_n (i := 0) (x := 236) (nx := 1) (r1 := 0) (r2 := 0) (r3 := 0) rfl rfl ?_
  refine wr_V (k0 := 236) (rest := []) (as := [.ref 236]) (nx := 4) (r1 := 278) (r2 := 0) (r3 := 11) rfl rfl rfl (of_decide_eq_true rfl) rfl rfl (by decide) rfl rfl (of_decide_eq_true rfl) (of_decide_eq_true rfl) ?_
  refine ct_278_236 hcr  g   (show (h 238 98) + (h 238 99) + (h 238 100) + (h 238 101) + (h 238 102) + (h 238 106) = (h 238 73) by omega) (show (h 238 73) ≤ (h 238 2) by omega) (show (h 238 119) ≤ (h 238 67) by omega) (show (h 238 69) ≤ (h 238 5) by omega) (show (h 238 2) ≤ 12 * (h 238 5) by omega) xq0 gp0 (fun h25 g25 u25 (p25_0 : 1 ≤ (h25 236 22)) y25_0 y25_1 => ?_)
  have F26 := F0.then (by decide +kernel) u25
  have b27 := gi_b (lo := 0) (hi := 6) g25 236 22 rfl
  refine wk_n ?_
  refine wi_iconst (n := 0) (nx := 5) (r1 := 0) (r2 := 0) (r3 := 0) rfl ?_
  refine wi_istore_n (i := 1) (e := 0) (lo2 := [(1, vi 0), (0, .ref 236)]) (nx := 6) (r1 := 0) (r2 := 0) (r3 := 0) rfl rfl ?_
  refine wp.lo (lo := [(0, .ref 236), (1, vi 0)]) ⟨rfl, rfl, trivial⟩ rfl ?_
  refine wl_1 (fun x28 h29 => GI h29 ∧ FR [(242, 242, none), (236, 236, some (22, 22))] h h29 ∧ FR [(242, 242, none)] h25 h29 ∧ ((0 ≤ x28 ∧ x28 ≤ 200)) ∧ (∀ q : Nat, (q : Int) < x28 → h29 242 (200 * ((h25 236 22).toNat - 1) + q) = h25 240 q) ∧ (∀ q : Nat, (q < 200 * ((h25 236 22).toNat - 1) ∨ (200 * ((h25 236 22).toNat - 1) : Nat) + x28 ≤ (q : Int)) → h29 242 q = h25 242 q)) (fun x28 h29 => ((200 : Int) + 1 - x28).toNat) (fun x28 h29 => (6, [(0, .ref 236), (1, vi x28)], [], hp_w h29 cr, b, c)) ?_ 0 h25 ⟨g25, F26, FR.refl, (show (0 ≤ 0 ∧ 0 ≤ 200) by omega), (fun q e => absurd e (by omega)), (fun _ _ => rfl)⟩
  intro x28 h29 ⟨g29, F30, u29, f29, XA29, XB29⟩ I29
  refine wi_iload_n (i := 1) (e := x28) (nx := 7) (r1 := 0) (r2 := 0) (r3 := 0) rfl rfl ?_
  refine wi_sipush (n := 200) (nx := 10) (r1 := 0) (r2 := 0) (r3 := 0) rfl (by decide) ?_
  refine wi_icmp (cd := .ge) (nx := 13) (r1 := 42) (r2 := 0) (r3 := 0) rfl (by omega) (by omega) (fun (q31 : 200 ≤ x28) => ?_) (fun (q31 : ¬ (200 ≤ x28)) => ?_)
  ·
    refine wi_return (nx := 43) (r1 := 0) (r2 := 0) (r3 := 0) rfl rfl ?_
    have e33 : h29 236 22 = h25 236 22 := (u29 236 22 rfl)
    have gs32 : GPS h29 := GPS.over (u := (h25 236 22).toNat - 1) y25_0 (by omega) (fun i hi => (u29 238 i (fn_a (by decide) fn_0))) (fun i hi => ((u25 240 i (fn_a (by decide) (fn_a (by decide) (fn_a (by decide) fn_0)))).trans ((xq1 i hi).trans ((u25 238 i (fn_a (by decide) (fn_a (by decide) (fn_a (by decide) fn_0))))).symm))) (fun q e => (XA29 q (by omega))) (fun q e => (XB29 q (by omega)))
    have e34 : h25 240 98 = h 240 98 := (u25 240 98 rfl)
    have e35 : h25 240 99 = h 240 99 := (u25 240 99 rfl)
    have e36 : h25 240 100 = h 240 100 := (u25 240 100 rfl)
    have e37 : h25 240 101 = h 240 101 := (u25 240 101 rfl)
    have e38 : h25 240 102 = h 240 102 := (u25 240 102 rfl)
    have e39 : h25 240 106 = h 240 106 := (u25 240 106 rfl)
    have e40 : h25 240 73 = h 240 73 := (u25 240 73 rfl)
    have e41 : h25 240 2 = h 240 2 := (u25 240 2 rfl)
    have e42 : h25 240 119 = h 240 119 := (u25 240 119 rfl)
    have e43 : h25 240 67 = h 240 67 := (u25 240 67 rfl)
    have e44 : h25 240 69 = h 240 69 := (u25 240 69 rfl)
    have e45 : h25 240 5 = h 240 5 := (u25 240 5 rfl)
    have gp46 : GPH h29 := GPH.put (u := (h25 236 22).toNat - 1) (k := 240) y25_1 (RS.i0 (f := h25 240) (by refine ⟨?_, ?_, ?_, ?_, ?_⟩ <;> omega)) (fun q e => XA29 q (by omega)) (fun q e => XB29 q (by omega))
    exact k h29 g29 F30 gs32 gp46
  ·
    refine wi_aload_n (i := 0) (x := 236) (nx := 14) (r1 := 0) (r2 := 0) (r3 := 0) rfl rfl ?_
    refine wr_gr (k0 := 236) (x := 242) (nx := 17) (r1 := 11) (r2 := 17) (r3 := 0) rfl rfl (by decide) rfl ⟨rfl, rfl⟩ rfl ?_
    refine wi_sipush (n := 200) (nx := 20) (r1 := 0) (r2 := 0) (r3 := 0) rfl (by decide) ?_
    refine wi_aload_n (i := 0) (x := 236) (nx := 21) (r1 := 0) (r2 := 0) (r3 := 0) rfl rfl ?_
    refine wr_gi0 (k0 := 236) (x := h25 236 22) (nx := 24) (r1 := 11) (r2 := 22) (r3 := 0) rfl rfl (by decide) rfl ⟨rfl, rfl⟩ rfl (u29 236 22 rfl) ?_
    refine wi_iconst (n := 1) (nx := 25) (r1 := 0) (r2 := 0) (r3 := 0) rfl ?_
    refine wr_sub (nx := 26) (r1 := 0) (r2 := 0) (r3 := 0) rfl (fun e32 (fe32 : e32 = (h25 236 22) - 1) => ?_)
    refine wr_mul (nx := 27) (r1 := 0) (r2 := 0) (r3 := 0) rfl (fun e33 (fe33 : e33 = 200 * e32) => ?_)
    refine wi_iload_n (i := 1) (e := x28) (nx := 28) (r1 := 0) (r2 := 0) (r3 := 0) rfl rfl ?_
    refine wr_add (nx := 29) (r1 := 0) (r2 := 0) (r3 := 0) rfl (fun e34 (fe34 : e34 = e33 + x28) => ?_)
    refine wi_aload_n (i := 0) (x := 236) (nx := 30) (r1 := 0) (r2 := 0) (r3 := 0) rfl rfl ?_
    refine wr_gr (k0 := 236) (x := 240) (nx := 33) (r1 := 11) (r2 := 15) (r3 := 0) rfl rfl (by decide) rfl ⟨rfl, rfl⟩ rfl ?_
    refine wi_iload_n (i := 1) (e := x28) (nx := 34) (r1 := 0) (r2 := 0) (r3 := 0) rfl rfl ?_
    obtain ⟨i35, ei35⟩ : ∃ q : Nat, x28 = (q : Int) := ⟨(x28).toNat, by omega⟩
    refine wr_ia (k0 := 240) (a := x28) (f := i35) (x := h 240 i35) (nx := 35) (r1 := 0) (r2 := 0) (r3 := 0) rfl (by decide) rfl (by omega) (by omega) (by decide) ((u29 240 i35 (fn_a (by decide) fn_0)).trans (u25 240 i35 (fn_a (by decide) (fn_a (by decide) (fn_a (by decide) fn_0))))) ?_
    obtain ⟨i36, ei36⟩ : ∃ q : Nat, e34 = (q : Int) := ⟨(e34).toNat, by omega⟩
    refine wr_iv (k0 := 242) (a := e34) (f := i36) (x := h 240 i35) (nx := 36) (r1 := 0) (r2 := 0) (r3 := 0) rfl (by decide) rfl (by omega) (by omega) (by decide) g29 (gi_rp (by omega) (fun _ => rfl) (g 240 i35)) (fun h37 g37 w37 u37 => ?_)
    have F38 := F30.then rfl (FR.rngp (lo := 242) (hi := 242) u37 (by decide))
    have F39 := u29.then rfl (FR.rngp (lo := 242) (hi := 242) u37 (by decide))
    refine wr_iinc (i := 1) (n := 1) (v := x28) (fun e40 => [(1, vi e40), (0, .ref 236)]) (nx := 39) (r1 := 0) (r2 := 0) (r3 := 0) rfl rfl (fun _ => rfl) (fun e40 (fe40 : e40 = x28 + 1) => ?_)
    refine wi_goto (nx := 42) (r1 := 6) (r2 := 0) (r3 := 0) rfl ?_
    refine wp.lo (lo := [(0, .ref 236), (1, vi e40)]) ⟨rfl, rfl, trivial⟩ rfl ?_
    exact I29 e40 h37 ⟨g37, F38, F39, (show (0 ≤ e40 ∧ e40 ≤ 200) by omega), (fun q e => by
        by_cases e1 : (q : Int) < x28
        · exact (u37 242 _ (fn_i (by omega) fn_0)).trans (XA29 q e1)
        · have e2 : 200 * ((h25 236 22).toNat - 1) + q = i36 := by omega
          have e3 : q = i35 := by omega
          exact (congrArg (h37 242) e2).trans (w37.trans (((u25 240 i35 (fn_a (by decide) (fn_a (by decide) (fn_a (by decide) fn_0)))).symm).trans (congrArg (h25 240) e3).symm))), (fun q e => (u37 242 q (fn_i (by omega) fn_0)).trans (XB29 q (by omega)))⟩ (show ((200 : Int) + 1 - e40).toNat < ((200 : Int) + 1 - x28).toNat by omega)
-- method 336: Model.commandHere()I
set_option maxRecDepth 100000 in
set_option maxHeartbeats 100000000 in
theorem ct_336_236 {L : Nat} {xs : Nat → Int32} {d b c : Nat} {h : hp} {cr : Nat → Nat → Option Nat} {Q : hp_Q} (hcr : CR cr)  {tB : Nat → Int} {tn tp : Int} (g : GI h)   (pp0 : 0 ≤ tp) (pp1 : tp ≤ tn) (pp2 : tp ≤ tk_nx tB tn tp ∧ tk_nx tB tn tp ≤ tn) (pp3 : h 236 8 = 0) (pp4 : (h 236 4 = tk_nx tB tn tp ∧ h 236 5 = tk_st tB tn tp ∧ TKk tB tn tp (h 236 6) (h 236 7) (h 236 12))) (xq0 : RefB tB tn h) (k : ∀ (z0 : Int), (-1 ≤ z0 ∧ z0 ≤ 7) → ((tk_kd tB tn tp = 1 ∧ 13 ≤ tk_wd (tk_lw tB tn tp) ∧ tk_wd (tk_lw tB tn tp) ≤ 20 ∧ z0 = tk_wd (tk_lw tB tn tp) - 13 ∧ 0 ≤ z0) ∨ ((tk_kd tB tn tp ≠ 1 ∨ tk_wd (tk_lw tB tn tp) < 13 ∨ 20 < tk_wd (tk_lw tB tn tp)) ∧ z0 = -1)) → Q (.inl (some (vi z0))) (hp_w h cr) b c) : wp (md_xa (L, xs)) (d + 1) 336 (0, [(0, .ref 236)], [], hp_w h cr, b, c) Q := by
  have F0 : FR [] h h := FR.refl
  have tb_1 : h 236 3 = tn := xq0.2.1
  have tb_2 : 0 ≤ tn ∧ tn ≤ 800 := xq0.2.2
  have tkk0_ := pp4.2.2
  have b1 := gi_b (lo := 0) (hi := 5) g 236 8 rfl
  have b2 := gi_b (lo := 0) (hi := 800) g 236 4 rfl
  have b3 := gi_b (lo := 0) (hi := 800) g 236 5 rfl
  have b4 := gi_b (lo := 0) (hi := 4) g 236 6 rfl
  have b5 := gi_b (lo := 0) (hi := 999) g 236 7 rfl
  have b6 := gi_b (lo := -9223372036854775808) (hi := 9223372036854775807) g 236 12 rfl
  refine wi_aload_n (i := 0) (x := 236) (nx := 1) (r1 := 0) (r2 := 0) (r3 := 0) rfl rfl ?_
  refine wi_ldc2_w (e := 5722290) (nx := 4) (r1 := 5722290) (r2 := 0) (r3 := 0) rfl (by decide) ?_
  refine wr_V (k0 := 236) (rest := []) (as := [.ref 236, vl 5722290]) (nx := 7) (r1 := 221) (r2 := 1) (r3 := 11) rfl rfl rfl (of_decide_eq_true rfl) rfl rfl (by decide) rfl rfl (of_decide_eq_true rfl) (of_decide_eq_true rfl) ?_
  refine wi_aload_n (i := 0) (x := 236) (nx := 1) (r1 := 0) (r2 := 0) (r3 := 0) rfl rfl ?_
  refine wr_gi0 (k0 := 236) (x := h 236 8) (nx := 4) (r1 := 11) (r2 := 8) (r3 := 0) rfl rfl (by decide) rfl ⟨rfl, rfl⟩ rfl rfl ?_
  refine wi_if (cd := .ne) (nx := 7) (r1 := 28) (r2 := 0) (r3 := 0) rfl (by omega) (fun (q7 : (h 236 8) ≠ 0) => by exfalso; omega) (fun (q7 : ¬ ((h 236 8) ≠ 0)) => ?_)
  refine wi_aload_n (i := 0) (x := 236) (nx := 8) (r1 := 0) (r2 := 0) (r3 := 0) rfl rfl ?_
  refine wr_gi0 (k0 := 236) (x := h 236 6) (nx := 11) (r1 := 11) (r2 := 6) (r3 := 0) rfl rfl (by decide) rfl ⟨rfl, rfl⟩ rfl rfl ?_
  refine wi_iconst (n := 1) (nx := 12) (r1 := 0) (r2 := 0) (r3 := 0) rfl ?_
  refine wi_icmp (cd := .ne) (nx := 15) (r1 := 28) (r2 := 0) (r3 := 0) rfl (by omega) (by omega) (fun (q8 : (h 236 6) ≠ 1) => ?_) (fun (q8 : ¬ ((h 236 6) ≠ 1)) => ?_)
  ·
    have kf9 := TKk.n1 (B := tB) (n := tn) (p := tp) (a6 := h 236 6) (by assumption) (by omega)
    replace kf9 : TKn (tk_kd tB tn tp = 1) := kf9
    refine wi_iconst (n := 0) (nx := 29) (r1 := 0) (r2 := 0) (r3 := 0) rfl ?_
    refine wi_zreturn (nx := 30) (r1 := 0) (r2 := 0) (r3 := 0) rfl rfl (by omega) ?_
    refine wk_i ?_
    refine wi_if (cd := .eq) (nx := 10) (r1 := 12) (r2 := 0) (r3 := 0) rfl (by omega) (fun (q10 : 0 = 0) => ?_) (fun (q10 : ¬ (0 = 0)) => by exfalso; omega)
    refine wi_aload_n (i := 0) (x := 236) (nx := 13) (r1 := 0) (r2 := 0) (r3 := 0) rfl rfl ?_
    refine wi_ldc2_w (e := 12748485) (nx := 16) (r1 := 12748485) (r2 := 0) (r3 := 0) rfl (by decide) ?_
    refine wr_V (k0 := 236) (rest := []) (as := [.ref 236, vl 12748485]) (nx := 19) (r1 := 221) (r2 := 1) (r3 := 11) rfl rfl rfl (of_decide_eq_true rfl) rfl rfl (by decide) rfl rfl (of_decide_eq_true rfl) (of_decide_eq_true rfl) ?_
    refine wi_aload_n (i := 0) (x := 236) (nx := 1) (r1 := 0) (r2 := 0) (r3 := 0) rfl rfl ?_
    refine wr_gi0 (k0 := 236) (x := h 236 8) (nx := 4) (r1 := 11) (r2 := 8) (r3 := 0) rfl rfl (by decide) rfl ⟨rfl, rfl⟩ rfl rfl ?_
    refine wi_if (cd := .ne) (nx := 7) (r1 := 28) (r2 := 0) (r3 := 0) rfl (by omega) (fun (q11 : (h 236 8) ≠ 0) => by exfalso; omega) (fun (q11 : ¬ ((h 236 8) ≠ 0)) => ?_)
    refine wi_aload_n (i := 0) (x := 236) (nx := 8) (r1 := 0) (r2 := 0) (r3 := 0) rfl rfl ?_
    refine wr_gi0 (k0 := 236) (x := h 236 6) (nx := 11) (r1 := 11) (r2 := 6) (r3 := 0) rfl rfl (by decide) rfl ⟨rfl, rfl⟩ rfl rfl ?_
    refine wi_iconst (n := 1) (nx := 12) (r1 := 0) (r2 := 0) (r3 := 0) rfl ?_
    refine wi_icmp (cd := .ne) (nx := 15) (r1 := 28) (r2 := 0) (r3 := 0) rfl (by omega) (by omega) (fun (q12 : (h 236 6) ≠ 1) => ?_) (fun (q12 : ¬ ((h 236 6) ≠ 1)) => by exfalso; omega)
    refine wi_iconst (n := 0) (nx := 29) (r1 := 0) (r2 := 0) (r3 := 0) rfl ?_
    refine wi_zreturn (nx := 30) (r1 := 0) (r2 := 0) (r3 := 0) rfl rfl (by omega) ?_
    refine wk_i ?_
    refine wi_if (cd := .eq) (nx := 22) (r1 := 24) (r2 := 0) (r3 := 0) rfl (by omega) (fun (q13 : 0 = 0) => ?_) (fun (q13 : ¬ (0 = 0)) => by exfalso; omega)
    refine wi_aload_n (i := 0) (x := 236) (nx := 25) (r1 := 0) (r2 := 0) (r3 := 0) rfl rfl ?_
    refine wi_ldc2_w (e := 66667) (nx := 28) (r1 := 66667) (r2 := 0) (r3 := 0) rfl (by decide) ?_
    refine wr_V (k0 := 236) (rest := []) (as := [.ref 236, vl 66667]) (nx := 31) (r1 := 221) (r2 := 1) (r3 := 11) rfl rfl rfl (of_decide_eq_true rfl) rfl rfl (by decide) rfl rfl (of_decide_eq_true rfl) (of_decide_eq_true rfl) ?_
    refine wi_aload_n (i := 0) (x := 236) (nx := 1) (r1 := 0) (r2 := 0) (r3 := 0) rfl rfl ?_
    refine wr_gi0 (k0 := 236) (x := h 236 8) (nx := 4) (r1 := 11) (r2 := 8) (r3 := 0) rfl rfl (by decide) rfl ⟨rfl, rfl⟩ rfl rfl ?_
    refine wi_if (cd := .ne) (nx := 7) (r1 := 28) (r2 := 0) (r3 := 0) rfl (by omega) (fun (q14 : (h 236 8) ≠ 0) => by exfalso; omega) (fun (q14 : ¬ ((h 236 8) ≠ 0)) => ?_)
    refine wi_aload_n (i := 0) (x := 236) (nx := 8) (r1 := 0) (r2 := 0) (r3 := 0) rfl rfl ?_
    refine wr_gi0 (k0 := 236) (x := h 236 6) (nx := 11) (r1 := 11) (r2 := 6) (r3 := 0) rfl rfl (by decide) rfl ⟨rfl, rfl⟩ rfl rfl ?_
    refine wi_iconst (n := 1) (nx := 12) (r1 := 0) (r2 := 0) (r3 := 0) rfl ?_
    refine wi_icmp (cd := .ne) (nx := 15) (r1 := 28) (r2 := 0) (r3 := 0) rfl (by omega) (by omega) (fun (q15 : (h 236 6) ≠ 1) => ?_) (fun (q15 : ¬ ((h 236 6) ≠ 1)) => by exfalso; omega)
    refine wi_iconst (n := 0) (nx := 29) (r1 := 0) (r2 := 0) (r3 := 0) rfl ?_
    refine wi_zreturn (nx := 30) (r1 := 0) (r2 := 0) (r3 := 0) rfl rfl (by omega) ?_
    refine wk_i ?_
    refine wi_if (cd := .eq) (nx := 34) (r1 := 36) (r2 := 0) (r3 := 0) rfl (by omega) (fun (q16 : 0 = 0) => ?_) (fun (q16 : ¬ (0 = 0)) => by exfalso; omega)
    refine wi_aload_n (i := 0) (x := 236) (nx := 37) (r1 := 0) (r2 := 0) (r3 := 0) rfl rfl ?_
    refine wi_ldc2_w (e := 754996) (nx := 40) (r1 := 754996) (r2 := 0) (r3 := 0) rfl (by decide) ?_
    refine wr_V (k0 := 236) (rest := []) (as := [.ref 236, vl 754996]) (nx := 43) (r1 := 221) (r2 := 1) (r3 := 11) rfl rfl rfl (of_decide_eq_true rfl) rfl rfl (by decide) rfl rfl (of_decide_eq_true rfl) (of_decide_eq_true rfl) ?_
    refine wi_aload_n (i := 0) (x := 236) (nx := 1) (r1 := 0) (r2 := 0) (r3 := 0) rfl rfl ?_
    refine wr_gi0 (k0 := 236) (x := h 236 8) (nx := 4) (r1 := 11) (r2 := 8) (r3 := 0) rfl rfl (by decide) rfl ⟨rfl, rfl⟩ rfl rfl ?_
    refine wi_if (cd := .ne) (nx := 7) (r1 := 28) (r2 := 0) (r3 := 0) rfl (by omega) (fun (q17 : (h 236 8) ≠ 0) => by exfalso; omega) (fun (q17 : ¬ ((h 236 8) ≠ 0)) => ?_)
    refine wi_aload_n (i := 0) (x := 236) (nx := 8) (r1 := 0) (r2 := 0) (r3 := 0) rfl rfl ?_
    refine wr_gi0 (k0 := 236) (x := h 236 6) (nx := 11) (r1 := 11) (r2 := 6) (r3 := 0) rfl rfl (by decide) rfl ⟨rfl, rfl⟩ rfl rfl ?_
    refine wi_iconst (n := 1) (nx := 12) (r1 := 0) (r2 := 0) (r3 := 0) rfl ?_
    refine wi_icmp (cd := .ne) (nx := 15) (r1 := 28) (r2 := 0) (r3 := 0) rfl (by omega) (by omega) (fun (q18 : (h 236 6) ≠ 1) => ?_) (fun (q18 : ¬ ((h 236 6) ≠ 1)) => by exfalso; omega)
    refine wi_iconst (n := 0) (nx := 29) (r1 := 0) (r2 := 0) (r3 := 0) rfl ?_
    refine wi_zreturn (nx := 30) (r1 := 0) (r2 := 0) (r3 := 0) rfl rfl (by omega) ?_
    refine wk_i ?_
    refine wi_if (cd := .eq) (nx := 46) (r1 := 48) (r2 := 0) (r3 := 0) rfl (by omega) (fun (q19 : 0 = 0) => ?_) (fun (q19 : ¬ (0 = 0)) => by exfalso; omega)
    refine wi_aload_n (i := 0) (x := 236) (nx := 49) (r1 := 0) (r2 := 0) (r3 := 0) rfl rfl ?_
    refine wi_ldc2_w (e := 643248) (nx := 52) (r1 := 643248) (r2 := 0) (r3 := 0) rfl (by decide) ?_
    refine wr_V (k0 := 236) (rest := []) (as := [.ref 236, vl 643248]) (nx := 55) (r1 := 221) (r2 := 1) (r3 := 11) rfl rfl rfl (of_decide_eq_true rfl) rfl rfl (by decide) rfl rfl (of_decide_eq_true rfl) (of_decide_eq_true rfl) ?_
    refine wi_aload_n (i := 0) (x := 236) (nx := 1) (r1 := 0) (r2 := 0) (r3 := 0) rfl rfl ?_
    refine wr_gi0 (k0 := 236) (x := h 236 8) (nx := 4) (r1 := 11) (r2 := 8) (r3 := 0) rfl rfl (by decide) rfl ⟨rfl, rfl⟩ rfl rfl ?_
    refine wi_if (cd := .ne) (nx := 7) (r1 := 28) (r2 := 0) (r3 := 0) rfl (by omega) (fun (q20 : (h 236 8) ≠ 0) => by exfalso; omega) (fun (q20 : ¬ ((h 236 8) ≠ 0)) => ?_)
    refine wi_aload_n (i := 0) (x := 236) (nx := 8) (r1 := 0) (r2 := 0) (r3 := 0) rfl rfl ?_
    refine wr_gi0 (k0 := 236) (x := h 236 6) (nx := 11) (r1 := 11) (r2 := 6) (r3 := 0) rfl rfl (by decide) rfl ⟨rfl, rfl⟩ rfl rfl ?_
    refine wi_iconst (n := 1) (nx := 12) (r1 := 0) (r2 := 0) (r3 := 0) rfl ?_
    refine wi_icmp (cd := .ne) (nx := 15) (r1 := 28) (r2 := 0) (r3 := 0) rfl (by omega) (by omega) (fun (q21 : (h 236 6) ≠ 1) => ?_) (fun (q21 : ¬ ((h 236 6) ≠ 1)) => by exfalso; omega)
    refine wi_iconst (n := 0) (nx := 29) (r1 := 0) (r2 := 0) (r3 := 0) rfl ?_
    refine wi_zreturn (nx := 30) (r1 := 0) (r2 := 0) (r3 := 0) rfl rfl (by omega) ?_
    refine wk_i ?_
    refine wi_if (cd := .eq) (nx := 58) (r1 := 60) (r2 := 0) (r3 := 0) rfl (by omega) (fun (q22 : 0 = 0) => ?_) (fun (q22 : ¬ (0 = 0)) => by exfalso; omega)
    refine wi_aload_n (i := 0) (x := 236) (nx := 61) (r1 := 0) (r2 := 0) (r3 := 0) rfl rfl ?_
    refine wi_ldc2_w (e := 719731748) (nx := 64) (r1 := 719731748) (r2 := 0) (r3 := 0) rfl (by decide) ?_
    refine wr_V (k0 := 236) (rest := []) (as := [.ref 236, vl 719731748]) (nx := 67) (r1 := 221) (r2 := 1) (r3 := 11) rfl rfl rfl (of_decide_eq_true rfl) rfl rfl (by decide) rfl rfl (of_decide_eq_true rfl) (of_decide_eq_true rfl) ?_
    refine wi_aload_n (i := 0) (x := 236) (nx := 1) (r1 := 0) (r2 := 0) (r3 := 0) rfl rfl ?_
    refine wr_gi0 (k0 := 236) (x := h 236 8) (nx := 4) (r1 := 11) (r2 := 8) (r3 := 0) rfl rfl (by decide) rfl ⟨rfl, rfl⟩ rfl rfl ?_
    refine wi_if (cd := .ne) (nx := 7) (r1 := 28) (r2 := 0) (r3 := 0) rfl (by omega) (fun (q23 : (h 236 8) ≠ 0) => by exfalso; omega) (fun (q23 : ¬ ((h 236 8) ≠ 0)) => ?_)
    refine wi_aload_n (i := 0) (x := 236) (nx := 8) (r1 := 0) (r2 := 0) (r3 := 0) rfl rfl ?_
    refine wr_gi0 (k0 := 236) (x := h 236 6) (nx := 11) (r1 := 11) (r2 := 6) (r3 := 0) rfl rfl (by decide) rfl ⟨rfl, rfl⟩ rfl rfl ?_
    refine wi_iconst (n := 1) (nx := 12) (r1 := 0) (r2 := 0) (r3 := 0) rfl ?_
    refine wi_icmp (cd := .ne) (nx := 15) (r1 := 28) (r2 := 0) (r3 := 0) rfl (by omega) (by omega) (fun (q24 : (h 236 6) ≠ 1) => ?_) (fun (q24 : ¬ ((h 236 6) ≠ 1)) => by exfalso; omega)
    refine wi_iconst (n := 0) (nx := 29) (r1 := 0) (r2 := 0) (r3 := 0) rfl ?_
    refine wi_zreturn (nx := 30) (r1 := 0) (r2 := 0) (r3 := 0) rfl rfl (by omega) ?_
    refine wk_i ?_
    refine wi_if (cd := .eq) (nx := 70) (r1 := 72) (r2 := 0) (r3 := 0) rfl (by omega) (fun (q25 : 0 = 0) => ?_) (fun (q25 : ¬ (0 = 0)) => by exfalso; omega)
    refine wi_aload_n (i := 0) (x := 236) (nx := 73) (r1 := 0) (r2 := 0) (r3 := 0) rfl rfl ?_
    refine wi_ldc2_w (e := 646192) (nx := 76) (r1 := 646192) (r2 := 0) (r3 := 0) rfl (by decide) ?_
    refine wr_V (k0 := 236) (rest := []) (as := [.ref 236, vl 646192]) (nx := 79) (r1 := 221) (r2 := 1) (r3 := 11) rfl rfl rfl (of_decide_eq_true rfl) rfl rfl (by decide) rfl rfl (of_decide_eq_true rfl) (of_decide_eq_true rfl) ?_
    refine wi_aload_n (i := 0) (x := 236) (nx := 1) (r1 := 0) (r2 := 0) (r3 := 0) rfl rfl ?_
    refine wr_gi0 (k0 := 236) (x := h 236 8) (nx := 4) (r1 := 11) (r2 := 8) (r3 := 0) rfl rfl (by decide) rfl ⟨rfl, rfl⟩ rfl rfl ?_
    refine wi_if (cd := .ne) (nx := 7) (r1 := 28) (r2 := 0) (r3 := 0) rfl (by omega) (fun (q26 : (h 236 8) ≠ 0) => by exfalso; omega) (fun (q26 : ¬ ((h 236 8) ≠ 0)) => ?_)
    refine wi_aload_n (i := 0) (x := 236) (nx := 8) (r1 := 0) (r2 := 0) (r3 := 0) rfl rfl ?_
    refine wr_gi0 (k0 := 236) (x := h 236 6) (nx := 11) (r1 := 11) (r2 := 6) (r3 := 0) rfl rfl (by decide) rfl ⟨rfl, rfl⟩ rfl rfl ?_
    refine wi_iconst (n := 1) (nx := 12) (r1 := 0) (r2 := 0) (r3 := 0) rfl ?_
    refine wi_icmp (cd := .ne) (nx := 15) (r1 := 28) (r2 := 0) (r3 := 0) rfl (by omega) (by omega) (fun (q27 : (h 236 6) ≠ 1) => ?_) (fun (q27 : ¬ ((h 236 6) ≠ 1)) => by exfalso; omega)
    refine wi_iconst (n := 0) (nx := 29) (r1 := 0) (r2 := 0) (r3 := 0) rfl ?_
    refine wi_zreturn (nx := 30) (r1 := 0) (r2 := 0) (r3 := 0) rfl rfl (by omega) ?_
    refine wk_i ?_
    refine wi_if (cd := .eq) (nx := 82) (r1 := 85) (r2 := 0) (r3 := 0) rfl (by omega) (fun (q28 : 0 = 0) => ?_) (fun (q28 : ¬ (0 = 0)) => by exfalso; omega)
    refine wi_aload_n (i := 0) (x := 236) (nx := 86) (r1 := 0) (r2 := 0) (r3 := 0) rfl rfl ?_
    refine wi_ldc2_w (e := 609752116) (nx := 89) (r1 := 609752116) (r2 := 0) (r3 := 0) rfl (by decide) ?_
    refine wr_V (k0 := 236) (rest := []) (as := [.ref 236, vl 609752116]) (nx := 92) (r1 := 221) (r2 := 1) (r3 := 11) rfl rfl rfl (of_decide_eq_true rfl) rfl rfl (by decide) rfl rfl (of_decide_eq_true rfl) (of_decide_eq_true rfl) ?_
    refine wi_aload_n (i := 0) (x := 236) (nx := 1) (r1 := 0) (r2 := 0) (r3 := 0) rfl rfl ?_
    refine wr_gi0 (k0 := 236) (x := h 236 8) (nx := 4) (r1 := 11) (r2 := 8) (r3 := 0) rfl rfl (by decide) rfl ⟨rfl, rfl⟩ rfl rfl ?_
    refine wi_if (cd := .ne) (nx := 7) (r1 := 28) (r2 := 0) (r3 := 0) rfl (by omega) (fun (q29 : (h 236 8) ≠ 0) => by exfalso; omega) (fun (q29 : ¬ ((h 236 8) ≠ 0)) => ?_)
    refine wi_aload_n (i := 0) (x := 236) (nx := 8) (r1 := 0) (r2 := 0) (r3 := 0) rfl rfl ?_
    refine wr_gi0 (k0 := 236) (x := h 236 6) (nx := 11) (r1 := 11) (r2 := 6) (r3 := 0) rfl rfl (by decide) rfl ⟨rfl, rfl⟩ rfl rfl ?_
    refine wi_iconst (n := 1) (nx := 12) (r1 := 0) (r2 := 0) (r3 := 0) rfl ?_
    refine wi_icmp (cd := .ne) (nx := 15) (r1 := 28) (r2 := 0) (r3 := 0) rfl (by omega) (by omega) (fun (q30 : (h 236 6) ≠ 1) => ?_) (fun (q30 : ¬ ((h 236 6) ≠ 1)) => by exfalso; omega)
    refine wi_iconst (n := 0) (nx := 29) (r1 := 0) (r2 := 0) (r3 := 0) rfl ?_
    refine wi_zreturn (nx := 30) (r1 := 0) (r2 := 0) (r3 := 0) rfl rfl (by omega) ?_
    refine wk_i ?_
    refine wi_if (cd := .eq) (nx := 95) (r1 := 100) (r2 := 0) (r3 := 0) rfl (by omega) (fun (q31 : 0 = 0) => ?_) (fun (q31 : ¬ (0 = 0)) => by exfalso; omega)
    refine wi_iconst (n := (-1)) (nx := 101) (r1 := 0) (r2 := 0) (r3 := 0) rfl ?_
    refine wi_ireturn (nx := 102) (r1 := 0) (r2 := 0) (r3 := 0) rfl rfl ?_
    exact k (-1) (by omega) (Or.inr ⟨Or.inl kf9.no, rfl⟩)
  ·
    have kf9 := TKk.e1 (B := tB) (n := tn) (p := tp) (a6 := h 236 6) (by assumption) (by omega)
    refine wi_aload_n (i := 0) (x := 236) (nx := 16) (r1 := 0) (r2 := 0) (r3 := 0) rfl rfl ?_
    refine wr_gi1 (k0 := 236) (x := h 236 12) (nx := 19) (r1 := 11) (r2 := 12) (r3 := 0) rfl rfl (by decide) rfl ⟨rfl, rfl⟩ rfl rfl ?_
    refine wi_lload_n (i := 1) (e := 5722290) (nx := 20) (r1 := 0) (r2 := 0) (r3 := 0) rfl rfl ?_
    refine wi_lcmp (a := h 236 12) (e := 5722290) (nx := 21) (r1 := 0) (r2 := 0) (r3 := 0) rfl (by omega) (by omega) (fun r10 (fr10 : (r10 = -1 ∧ (h 236 12) < 5722290) ∨ (r10 = 0 ∧ (h 236 12) = 5722290) ∨ (r10 = 1 ∧ 5722290 < (h 236 12))) => ?_)
    refine wi_if (cd := .ne) (nx := 24) (r1 := 28) (r2 := 0) (r3 := 0) rfl (by omega) (fun (q11 : r10 ≠ 0) => ?_) (fun (q11 : ¬ (r10 ≠ 0)) => ?_)
    ·
      have wk12 : TKn (tk_wd (tk_lw tB tn tp) = 13) := tk_wcm 12 (K := 5722290) (by decide) rfl rfl (by omega) (by omega) (show tk_kd tB tn tp = 1 by omega) (show tk_sw tB tn tp ≠ 5722290 by omega)
      clear q11 fr10
      refine wi_iconst (n := 0) (nx := 29) (r1 := 0) (r2 := 0) (r3 := 0) rfl ?_
      refine wi_zreturn (nx := 30) (r1 := 0) (r2 := 0) (r3 := 0) rfl rfl (by omega) ?_
      refine wk_i ?_
      refine wi_if (cd := .eq) (nx := 10) (r1 := 12) (r2 := 0) (r3 := 0) rfl (by omega) (fun (q13 : 0 = 0) => ?_) (fun (q13 : ¬ (0 = 0)) => by exfalso; omega)
      refine wi_aload_n (i := 0) (x := 236) (nx := 13) (r1 := 0) (r2 := 0) (r3 := 0) rfl rfl ?_
      refine wi_ldc2_w (e := 12748485) (nx := 16) (r1 := 12748485) (r2 := 0) (r3 := 0) rfl (by decide) ?_
      refine wr_V (k0 := 236) (rest := []) (as := [.ref 236, vl 12748485]) (nx := 19) (r1 := 221) (r2 := 1) (r3 := 11) rfl rfl rfl (of_decide_eq_true rfl) rfl rfl (by decide) rfl rfl (of_decide_eq_true rfl) (of_decide_eq_true rfl) ?_
      refine wi_aload_n (i := 0) (x := 236) (nx := 1) (r1 := 0) (r2 := 0) (r3 := 0) rfl rfl ?_
      refine wr_gi0 (k0 := 236) (x := h 236 8) (nx := 4) (r1 := 11) (r2 := 8) (r3 := 0) rfl rfl (by decide) rfl ⟨rfl, rfl⟩ rfl rfl ?_
      refine wi_if (cd := .ne) (nx := 7) (r1 := 28) (r2 := 0) (r3 := 0) rfl (by omega) (fun (q14 : (h 236 8) ≠ 0) => by exfalso; omega) (fun (q14 : ¬ ((h 236 8) ≠ 0)) => ?_)
      refine wi_aload_n (i := 0) (x := 236) (nx := 8) (r1 := 0) (r2 := 0) (r3 := 0) rfl rfl ?_
      refine wr_gi0 (k0 := 236) (x := h 236 6) (nx := 11) (r1 := 11) (r2 := 6) (r3 := 0) rfl rfl (by decide) rfl ⟨rfl, rfl⟩ rfl rfl ?_
      refine wi_iconst (n := 1) (nx := 12) (r1 := 0) (r2 := 0) (r3 := 0) rfl ?_
      refine wi_icmp (cd := .ne) (nx := 15) (r1 := 28) (r2 := 0) (r3 := 0) rfl (by omega) (by omega) (fun (q15 : (h 236 6) ≠ 1) => by exfalso; omega) (fun (q15 : ¬ ((h 236 6) ≠ 1)) => ?_)
      refine wi_aload_n (i := 0) (x := 236) (nx := 16) (r1 := 0) (r2 := 0) (r3 := 0) rfl rfl ?_
      refine wr_gi1 (k0 := 236) (x := h 236 12) (nx := 19) (r1 := 11) (r2 := 12) (r3 := 0) rfl rfl (by decide) rfl ⟨rfl, rfl⟩ rfl rfl ?_
      refine wi_lload_n (i := 1) (e := 12748485) (nx := 20) (r1 := 0) (r2 := 0) (r3 := 0) rfl rfl ?_
      refine wi_lcmp (a := h 236 12) (e := 12748485) (nx := 21) (r1 := 0) (r2 := 0) (r3 := 0) rfl (by omega) (by omega) (fun r16 (fr16 : (r16 = -1 ∧ (h 236 12) < 12748485) ∨ (r16 = 0 ∧ (h 236 12) = 12748485) ∨ (r16 = 1 ∧ 12748485 < (h 236 12))) => ?_)
      refine wi_if (cd := .ne) (nx := 24) (r1 := 28) (r2 := 0) (r3 := 0) rfl (by omega) (fun (q17 : r16 ≠ 0) => ?_) (fun (q17 : ¬ (r16 ≠ 0)) => ?_)
      ·
        have wk18 : TKn (tk_wd (tk_lw tB tn tp) = 14) := tk_wcm 13 (K := 12748485) (by decide) rfl rfl (by omega) (by omega) (show tk_kd tB tn tp = 1 by omega) (show tk_sw tB tn tp ≠ 12748485 by omega)
        clear q17 fr16
        refine wi_iconst (n := 0) (nx := 29) (r1 := 0) (r2 := 0) (r3 := 0) rfl ?_
        refine wi_zreturn (nx := 30) (r1 := 0) (r2 := 0) (r3 := 0) rfl rfl (by omega) ?_
        refine wk_i ?_
        refine wi_if (cd := .eq) (nx := 22) (r1 := 24) (r2 := 0) (r3 := 0) rfl (by omega) (fun (q19 : 0 = 0) => ?_) (fun (q19 : ¬ (0 = 0)) => by exfalso; omega)
        refine wi_aload_n (i := 0) (x := 236) (nx := 25) (r1 := 0) (r2 := 0) (r3 := 0) rfl rfl ?_
        refine wi_ldc2_w (e := 66667) (nx := 28) (r1 := 66667) (r2 := 0) (r3 := 0) rfl (by decide) ?_
        refine wr_V (k0 := 236) (rest := []) (as := [.ref 236, vl 66667]) (nx := 31) (r1 := 221) (r2 := 1) (r3 := 11) rfl rfl rfl (of_decide_eq_true rfl) rfl rfl (by decide) rfl rfl (of_decide_eq_true rfl) (of_decide_eq_true rfl) ?_
        refine wi_aload_n (i := 0) (x := 236) (nx := 1) (r1 := 0) (r2 := 0) (r3 := 0) rfl rfl ?_
        refine wr_gi0 (k0 := 236) (x := h 236 8) (nx := 4) (r1 := 11) (r2 := 8) (r3 := 0) rfl rfl (by decide) rfl ⟨rfl, rfl⟩ rfl rfl ?_
        refine wi_if (cd := .ne) (nx := 7) (r1 := 28) (r2 := 0) (r3 := 0) rfl (by omega) (fun (q20 : (h 236 8) ≠ 0) => by exfalso; omega) (fun (q20 : ¬ ((h 236 8) ≠ 0)) => ?_)
        refine wi_aload_n (i := 0) (x := 236) (nx := 8) (r1 := 0) (r2 := 0) (r3 := 0) rfl rfl ?_
        refine wr_gi0 (k0 := 236) (x := h 236 6) (nx := 11) (r1 := 11) (r2 := 6) (r3 := 0) rfl rfl (by decide) rfl ⟨rfl, rfl⟩ rfl rfl ?_
        refine wi_iconst (n := 1) (nx := 12) (r1 := 0) (r2 := 0) (r3 := 0) rfl ?_
        refine wi_icmp (cd := .ne) (nx := 15) (r1 := 28) (r2 := 0) (r3 := 0) rfl (by omega) (by omega) (fun (q21 : (h 236 6) ≠ 1) => by exfalso; omega) (fun (q21 : ¬ ((h 236 6) ≠ 1)) => ?_)
        refine wi_aload_n (i := 0) (x := 236) (nx := 16) (r1 := 0) (r2 := 0) (r3 := 0) rfl rfl ?_
        refine wr_gi1 (k0 := 236) (x := h 236 12) (nx := 19) (r1 := 11) (r2 := 12) (r3 := 0) rfl rfl (by decide) rfl ⟨rfl, rfl⟩ rfl rfl ?_
        refine wi_lload_n (i := 1) (e := 66667) (nx := 20) (r1 := 0) (r2 := 0) (r3 := 0) rfl rfl ?_
        refine wi_lcmp (a := h 236 12) (e := 66667) (nx := 21) (r1 := 0) (r2 := 0) (r3 := 0) rfl (by omega) (by omega) (fun r22 (fr22 : (r22 = -1 ∧ (h 236 12) < 66667) ∨ (r22 = 0 ∧ (h 236 12) = 66667) ∨ (r22 = 1 ∧ 66667 < (h 236 12))) => ?_)
        refine wi_if (cd := .ne) (nx := 24) (r1 := 28) (r2 := 0) (r3 := 0) rfl (by omega) (fun (q23 : r22 ≠ 0) => ?_) (fun (q23 : ¬ (r22 ≠ 0)) => ?_)
        ·
          have wk24 : TKn (tk_wd (tk_lw tB tn tp) = 15) := tk_wcm 14 (K := 66667) (by decide) rfl rfl (by omega) (by omega) (show tk_kd tB tn tp = 1 by omega) (show tk_sw tB tn tp ≠ 66667 by omega)
          clear q23 fr22
          refine wi_iconst (n := 0) (nx := 29) (r1 := 0) (r2 := 0) (r3 := 0) rfl ?_
          refine wi_zreturn (nx := 30) (r1 := 0) (r2 := 0) (r3 := 0) rfl rfl (by omega) ?_
          refine wk_i ?_
          refine wi_if (cd := .eq) (nx := 34) (r1 := 36) (r2 := 0) (r3 := 0) rfl (by omega) (fun (q25 : 0 = 0) => ?_) (fun (q25 : ¬ (0 = 0)) => by exfalso; omega)
          refine wi_aload_n (i := 0) (x := 236) (nx := 37) (r1 := 0) (r2 := 0) (r3 := 0) rfl rfl ?_
          refine wi_ldc2_w (e := 754996) (nx := 40) (r1 := 754996) (r2 := 0) (r3 := 0) rfl (by decide) ?_
          refine wr_V (k0 := 236) (rest := []) (as := [.ref 236, vl 754996]) (nx := 43) (r1 := 221) (r2 := 1) (r3 := 11) rfl rfl rfl (of_decide_eq_true rfl) rfl rfl (by decide) rfl rfl (of_decide_eq_true rfl) (of_decide_eq_true rfl) ?_
          refine wi_aload_n (i := 0) (x := 236) (nx := 1) (r1 := 0) (r2 := 0) (r3 := 0) rfl rfl ?_
          refine wr_gi0 (k0 := 236) (x := h 236 8) (nx := 4) (r1 := 11) (r2 := 8) (r3 := 0) rfl rfl (by decide) rfl ⟨rfl, rfl⟩ rfl rfl ?_
          refine wi_if (cd := .ne) (nx := 7) (r1 := 28) (r2 := 0) (r3 := 0) rfl (by omega) (fun (q26 : (h 236 8) ≠ 0) => by exfalso; omega) (fun (q26 : ¬ ((h 236 8) ≠ 0)) => ?_)
          refine wi_aload_n (i := 0) (x := 236) (nx := 8) (r1 := 0) (r2 := 0) (r3 := 0) rfl rfl ?_
          refine wr_gi0 (k0 := 236) (x := h 236 6) (nx := 11) (r1 := 11) (r2 := 6) (r3 := 0) rfl rfl (by decide) rfl ⟨rfl, rfl⟩ rfl rfl ?_
          refine wi_iconst (n := 1) (nx := 12) (r1 := 0) (r2 := 0) (r3 := 0) rfl ?_
          refine wi_icmp (cd := .ne) (nx := 15) (r1 := 28) (r2 := 0) (r3 := 0) rfl (by omega) (by omega) (fun (q27 : (h 236 6) ≠ 1) => by exfalso; omega) (fun (q27 : ¬ ((h 236 6) ≠ 1)) => ?_)
          refine wi_aload_n (i := 0) (x := 236) (nx := 16) (r1 := 0) (r2 := 0) (r3 := 0) rfl rfl ?_
          refine wr_gi1 (k0 := 236) (x := h 236 12) (nx := 19) (r1 := 11) (r2 := 12) (r3 := 0) rfl rfl (by decide) rfl ⟨rfl, rfl⟩ rfl rfl ?_
          refine wi_lload_n (i := 1) (e := 754996) (nx := 20) (r1 := 0) (r2 := 0) (r3 := 0) rfl rfl ?_
          refine wi_lcmp (a := h 236 12) (e := 754996) (nx := 21) (r1 := 0) (r2 := 0) (r3 := 0) rfl (by omega) (by omega) (fun r28 (fr28 : (r28 = -1 ∧ (h 236 12) < 754996) ∨ (r28 = 0 ∧ (h 236 12) = 754996) ∨ (r28 = 1 ∧ 754996 < (h 236 12))) => ?_)
          refine wi_if (cd := .ne) (nx := 24) (r1 := 28) (r2 := 0) (r3 := 0) rfl (by omega) (fun (q29 : r28 ≠ 0) => ?_) (fun (q29 : ¬ (r28 ≠ 0)) => ?_)
          ·
            have wk30 : TKn (tk_wd (tk_lw tB tn tp) = 16) := tk_wcm 15 (K := 754996) (by decide) rfl rfl (by omega) (by omega) (show tk_kd tB tn tp = 1 by omega) (show tk_sw tB tn tp ≠ 754996 by omega)
            clear q29 fr28
            refine wi_iconst (n := 0) (nx := 29) (r1 := 0) (r2 := 0) (r3 := 0) rfl ?_
            refine wi_zreturn (nx := 30) (r1 := 0) (r2 := 0) (r3 := 0) rfl rfl (by omega) ?_
            refine wk_i ?_
            refine wi_if (cd := .eq) (nx := 46) (r1 := 48) (r2 := 0) (r3 := 0) rfl (by omega) (fun (q31 : 0 = 0) => ?_) (fun (q31 : ¬ (0 = 0)) => by exfalso; omega)
            refine wi_aload_n (i := 0) (x := 236) (nx := 49) (r1 := 0) (r2 := 0) (r3 := 0) rfl rfl ?_
            refine wi_ldc2_w (e := 643248) (nx := 52) (r1 := 643248) (r2 := 0) (r3 := 0) rfl (by decide) ?_
            refine wr_V (k0 := 236) (rest := []) (as := [.ref 236, vl 643248]) (nx := 55) (r1 := 221) (r2 := 1) (r3 := 11) rfl rfl rfl (of_decide_eq_true rfl) rfl rfl (by decide) rfl rfl (of_decide_eq_true rfl) (of_decide_eq_true rfl) ?_
            refine wi_aload_n (i := 0) (x := 236) (nx := 1) (r1 := 0) (r2 := 0) (r3 := 0) rfl rfl ?_
            refine wr_gi0 (k0 := 236) (x := h 236 8) (nx := 4) (r1 := 11) (r2 := 8) (r3 := 0) rfl rfl (by decide) rfl ⟨rfl, rfl⟩ rfl rfl ?_
            refine wi_if (cd := .ne) (nx := 7) (r1 := 28) (r2 := 0) (r3 := 0) rfl (by omega) (fun (q32 : (h 236 8) ≠ 0) => by exfalso; omega) (fun (q32 : ¬ ((h 236 8) ≠ 0)) => ?_)
            refine wi_aload_n (i := 0) (x := 236) (nx := 8) (r1 := 0) (r2 := 0) (r3 := 0) rfl rfl ?_
            refine wr_gi0 (k0 := 236) (x := h 236 6) (nx := 11) (r1 := 11) (r2 := 6) (r3 := 0) rfl rfl (by decide) rfl ⟨rfl, rfl⟩ rfl rfl ?_
            refine wi_iconst (n := 1) (nx := 12) (r1 := 0) (r2 := 0) (r3 := 0) rfl ?_
            refine wi_icmp (cd := .ne) (nx := 15) (r1 := 28) (r2 := 0) (r3 := 0) rfl (by omega) (by omega) (fun (q33 : (h 236 6) ≠ 1) => by exfalso; omega) (fun (q33 : ¬ ((h 236 6) ≠ 1)) => ?_)
            refine wi_aload_n (i := 0) (x := 236) (nx := 16) (r1 := 0) (r2 := 0) (r3 := 0) rfl rfl ?_
            refine wr_gi1 (k0 := 236) (x := h 236 12) (nx := 19) (r1 := 11) (r2 := 12) (r3 := 0) rfl rfl (by decide) rfl ⟨rfl, rfl⟩ rfl rfl ?_
            refine wi_lload_n (i := 1) (e := 643248) (nx := 20) (r1 := 0) (r2 := 0) (r3 := 0) rfl rfl ?_
            refine wi_lcmp (a := h 236 12) (e := 643248) (nx := 21) (r1 := 0) (r2 := 0) (r3 := 0) rfl (by omega) (by omega) (fun r34 (fr34 : (r34 = -1 ∧ (h 236 12) < 643248) ∨ (r34 = 0 ∧ (h 236 12) = 643248) ∨ (r34 = 1 ∧ 643248 < (h 236 12))) => ?_)
            refine wi_if (cd := .ne) (nx := 24) (r1 := 28) (r2 := 0) (r3 := 0) rfl (by omega) (fun (q35 : r34 ≠ 0) => ?_) (fun (q35 : ¬ (r34 ≠ 0)) => ?_)
            ·
              have wk36 : TKn (tk_wd (tk_lw tB tn tp) = 17) := tk_wcm 16 (K := 643248) (by decide) rfl rfl (by omega) (by omega) (show tk_kd tB tn tp = 1 by omega) (show tk_sw tB tn tp ≠ 643248 by omega)
              clear q35 fr34
              refine wi_iconst (n := 0) (nx := 29) (r1 := 0) (r2 := 0) (r3 := 0) rfl ?_
              refine wi_zreturn (nx := 30) (r1 := 0) (r2 := 0) (r3 := 0) rfl rfl (by omega) ?_
              refine wk_i ?_
              refine wi_if (cd := .eq) (nx := 58) (r1 := 60) (r2 := 0) (r3 := 0) rfl (by omega) (fun (q37 : 0 = 0) => ?_) (fun (q37 : ¬ (0 = 0)) => by exfalso; omega)
              refine wi_aload_n (i := 0) (x := 236) (nx := 61) (r1 := 0) (r2 := 0) (r3 := 0) rfl rfl ?_
              refine wi_ldc2_w (e := 719731748) (nx := 64) (r1 := 719731748) (r2 := 0) (r3 := 0) rfl (by decide) ?_
              refine wr_V (k0 := 236) (rest := []) (as := [.ref 236, vl 719731748]) (nx := 67) (r1 := 221) (r2 := 1) (r3 := 11) rfl rfl rfl (of_decide_eq_true rfl) rfl rfl (by decide) rfl rfl (of_decide_eq_true rfl) (of_decide_eq_true rfl) ?_
              refine wi_aload_n (i := 0) (x := 236) (nx := 1) (r1 := 0) (r2 := 0) (r3 := 0) rfl rfl ?_
              refine wr_gi0 (k0 := 236) (x := h 236 8) (nx := 4) (r1 := 11) (r2 := 8) (r3 := 0) rfl rfl (by decide) rfl ⟨rfl, rfl⟩ rfl rfl ?_
              refine wi_if (cd := .ne) (nx := 7) (r1 := 28) (r2 := 0) (r3 := 0) rfl (by omega) (fun (q38 : (h 236 8) ≠ 0) => by exfalso; omega) (fun (q38 : ¬ ((h 236 8) ≠ 0)) => ?_)
              refine wi_aload_n (i := 0) (x := 236) (nx := 8) (r1 := 0) (r2 := 0) (r3 := 0) rfl rfl ?_
              refine wr_gi0 (k0 := 236) (x := h 236 6) (nx := 11) (r1 := 11) (r2 := 6) (r3 := 0) rfl rfl (by decide) rfl ⟨rfl, rfl⟩ rfl rfl ?_
              refine wi_iconst (n := 1) (nx := 12) (r1 := 0) (r2 := 0) (r3 := 0) rfl ?_
              refine wi_icmp (cd := .ne) (nx := 15) (r1 := 28) (r2 := 0) (r3 := 0) rfl (by omega) (by omega) (fun (q39 : (h 236 6) ≠ 1) => by exfalso; omega) (fun (q39 : ¬ ((h 236 6) ≠ 1)) => ?_)
              refine wi_aload_n (i := 0) (x := 236) (nx := 16) (r1 := 0) (r2 := 0) (r3 := 0) rfl rfl ?_
              refine wr_gi1 (k0 := 236) (x := h 236 12) (nx := 19) (r1 := 11) (r2 := 12) (r3 := 0) rfl rfl (by decide) rfl ⟨rfl, rfl⟩ rfl rfl ?_
              refine wi_lload_n (i := 1) (e := 719731748) (nx := 20) (r1 := 0) (r2 := 0) (r3 := 0) rfl rfl ?_
              refine wi_lcmp (a := h 236 12) (e := 719731748) (nx := 21) (r1 := 0) (r2 := 0) (r3 := 0) rfl (by omega) (by omega) (fun r40 (fr40 : (r40 = -1 ∧ (h 236 12) < 719731748) ∨ (r40 = 0 ∧ (h 236 12) = 719731748) ∨ (r40 = 1 ∧ 719731748 < (h 236 12))) => ?_)
              refine wi_if (cd := .ne) (nx := 24) (r1 := 28) (r2 := 0) (r3 := 0) rfl (by omega) (fun (q41 : r40 ≠ 0) => ?_) (fun (q41 : ¬ (r40 ≠ 0)) => ?_)
              ·
                have wk42 : TKn (tk_wd (tk_lw tB tn tp) = 18) := tk_wcm 17 (K := 719731748) (by decide) rfl rfl (by omega) (by omega) (show tk_kd tB tn tp = 1 by omega) (show tk_sw tB tn tp ≠ 719731748 by omega)
                clear q41 fr40
                refine wi_iconst (n := 0) (nx := 29) (r1 := 0) (r2 := 0) (r3 := 0) rfl ?_
                refine wi_zreturn (nx := 30) (r1 := 0) (r2 := 0) (r3 := 0) rfl rfl (by omega) ?_
                refine wk_i ?_
                refine wi_if (cd := .eq) (nx := 70) (r1 := 72) (r2 := 0) (r3 := 0) rfl (by omega) (fun (q43 : 0 = 0) => ?_) (fun (q43 : ¬ (0 = 0)) => by exfalso; omega)
                refine wi_aload_n (i := 0) (x := 236) (nx := 73) (r1 := 0) (r2 := 0) (r3 := 0) rfl rfl ?_
                refine wi_ldc2_w (e := 646192) (nx := 76) (r1 := 646192) (r2 := 0) (r3 := 0) rfl (by decide) ?_
                refine wr_V (k0 := 236) (rest := []) (as := [.ref 236, vl 646192]) (nx := 79) (r1 := 221) (r2 := 1) (r3 := 11) rfl rfl rfl (of_decide_eq_true rfl) rfl rfl (by decide) rfl rfl (of_decide_eq_true rfl) (of_decide_eq_true rfl) ?_
                refine wi_aload_n (i := 0) (x := 236) (nx := 1) (r1 := 0) (r2 := 0) (r3 := 0) rfl rfl ?_
                refine wr_gi0 (k0 := 236) (x := h 236 8) (nx := 4) (r1 := 11) (r2 := 8) (r3 := 0) rfl rfl (by decide) rfl ⟨rfl, rfl⟩ rfl rfl ?_
                refine wi_if (cd := .ne) (nx := 7) (r1 := 28) (r2 := 0) (r3 := 0) rfl (by omega) (fun (q44 : (h 236 8) ≠ 0) => by exfalso; omega) (fun (q44 : ¬ ((h 236 8) ≠ 0)) => ?_)
                refine wi_aload_n (i := 0) (x := 236) (nx := 8) (r1 := 0) (r2 := 0) (r3 := 0) rfl rfl ?_
                refine wr_gi0 (k0 := 236) (x := h 236 6) (nx := 11) (r1 := 11) (r2 := 6) (r3 := 0) rfl rfl (by decide) rfl ⟨rfl, rfl⟩ rfl rfl ?_
                refine wi_iconst (n := 1) (nx := 12) (r1 := 0) (r2 := 0) (r3 := 0) rfl ?_
                refine wi_icmp (cd := .ne) (nx := 15) (r1 := 28) (r2 := 0) (r3 := 0) rfl (by omega) (by omega) (fun (q45 : (h 236 6) ≠ 1) => by exfalso; omega) (fun (q45 : ¬ ((h 236 6) ≠ 1)) => ?_)
                refine wi_aload_n (i := 0) (x := 236) (nx := 16) (r1 := 0) (r2 := 0) (r3 := 0) rfl rfl ?_
                refine wr_gi1 (k0 := 236) (x := h 236 12) (nx := 19) (r1 := 11) (r2 := 12) (r3 := 0) rfl rfl (by decide) rfl ⟨rfl, rfl⟩ rfl rfl ?_
                refine wi_lload_n (i := 1) (e := 646192) (nx := 20) (r1 := 0) (r2 := 0) (r3 := 0) rfl rfl ?_
                refine wi_lcmp (a := h 236 12) (e := 646192) (nx := 21) (r1 := 0) (r2 := 0) (r3 := 0) rfl (by omega) (by omega) (fun r46 (fr46 : (r46 = -1 ∧ (h 236 12) < 646192) ∨ (r46 = 0 ∧ (h 236 12) = 646192) ∨ (r46 = 1 ∧ 646192 < (h 236 12))) => ?_)
                refine wi_if (cd := .ne) (nx := 24) (r1 := 28) (r2 := 0) (r3 := 0) rfl (by omega) (fun (q47 : r46 ≠ 0) => ?_) (fun (q47 : ¬ (r46 ≠ 0)) => ?_)
                ·
                  have wk48 : TKn (tk_wd (tk_lw tB tn tp) = 19) := tk_wcm 18 (K := 646192) (by decide) rfl rfl (by omega) (by omega) (show tk_kd tB tn tp = 1 by omega) (show tk_sw tB tn tp ≠ 646192 by omega)
                  clear q47 fr46
                  refine wi_iconst (n := 0) (nx := 29) (r1 := 0) (r2 := 0) (r3 := 0) rfl ?_
                  refine wi_zreturn (nx := 30) (r1 := 0) (r2 := 0) (r3 := 0) rfl rfl (by omega) ?_
                  refine wk_i ?_
                  refine wi_if (cd := .eq) (nx := 82) (r1 := 85) (r2 := 0) (r3 := 0) rfl (by omega) (fun (q49 : 0 = 0) => ?_) (fun (q49 : ¬ (0 = 0)) => by exfalso; omega)
                  refine wi_aload_n (i := 0) (x := 236) (nx := 86) (r1 := 0) (r2 := 0) (r3 := 0) rfl rfl ?_
                  refine wi_ldc2_w (e := 609752116) (nx := 89) (r1 := 609752116) (r2 := 0) (r3 := 0) rfl (by decide) ?_
                  refine wr_V (k0 := 236) (rest := []) (as := [.ref 236, vl 609752116]) (nx := 92) (r1 := 221) (r2 := 1) (r3 := 11) rfl rfl rfl (of_decide_eq_true rfl) rfl rfl (by decide) rfl rfl (of_decide_eq_true rfl) (of_decide_eq_true rfl) ?_
                  refine wi_aload_n (i := 0) (x := 236) (nx := 1) (r1 := 0) (r2 := 0) (r3 := 0) rfl rfl ?_
                  refine wr_gi0 (k0 := 236) (x := h 236 8) (nx := 4) (r1 := 11) (r2 := 8) (r3 := 0) rfl rfl (by decide) rfl ⟨rfl, rfl⟩ rfl rfl ?_
                  refine wi_if (cd := .ne) (nx := 7) (r1 := 28) (r2 := 0) (r3 := 0) rfl (by omega) (fun (q50 : (h 236 8) ≠ 0) => by exfalso; omega) (fun (q50 : ¬ ((h 236 8) ≠ 0)) => ?_)
                  refine wi_aload_n (i := 0) (x := 236) (nx := 8) (r1 := 0) (r2 := 0) (r3 := 0) rfl rfl ?_
                  refine wr_gi0 (k0 := 236) (x := h 236 6) (nx := 11) (r1 := 11) (r2 := 6) (r3 := 0) rfl rfl (by decide) rfl ⟨rfl, rfl⟩ rfl rfl ?_
                  refine wi_iconst (n := 1) (nx := 12) (r1 := 0) (r2 := 0) (r3 := 0) rfl ?_
                  refine wi_icmp (cd := .ne) (nx := 15) (r1 := 28) (r2 := 0) (r3 := 0) rfl (by omega) (by omega) (fun (q51 : (h 236 6) ≠ 1) => by exfalso; omega) (fun (q51 : ¬ ((h 236 6) ≠ 1)) => ?_)
                  refine wi_aload_n (i := 0) (x := 236) (nx := 16) (r1 := 0) (r2 := 0) (r3 := 0) rfl rfl ?_
                  refine wr_gi1 (k0 := 236) (x := h 236 12) (nx := 19) (r1 := 11) (r2 := 12) (r3 := 0) rfl rfl (by decide) rfl ⟨rfl, rfl⟩ rfl rfl ?_
                  refine wi_lload_n (i := 1) (e := 609752116) (nx := 20) (r1 := 0) (r2 := 0) (r3 := 0) rfl rfl ?_
                  refine wi_lcmp (a := h 236 12) (e := 609752116) (nx := 21) (r1 := 0) (r2 := 0) (r3 := 0) rfl (by omega) (by omega) (fun r52 (fr52 : (r52 = -1 ∧ (h 236 12) < 609752116) ∨ (r52 = 0 ∧ (h 236 12) = 609752116) ∨ (r52 = 1 ∧ 609752116 < (h 236 12))) => ?_)
                  refine wi_if (cd := .ne) (nx := 24) (r1 := 28) (r2 := 0) (r3 := 0) rfl (by omega) (fun (q53 : r52 ≠ 0) => ?_) (fun (q53 : ¬ (r52 ≠ 0)) => ?_)
                  ·
                    have wk54 : TKn (tk_wd (tk_lw tB tn tp) = 20) := tk_wcm 19 (K := 609752116) (by decide) rfl rfl (by omega) (by omega) (show tk_kd tB tn tp = 1 by omega) (show tk_sw tB tn tp ≠ 609752116 by omega)
                    clear q53 fr52
                    refine wi_iconst (n := 0) (nx := 29) (r1 := 0) (r2 := 0) (r3 := 0) rfl ?_
                    refine wi_zreturn (nx := 30) (r1 := 0) (r2 := 0) (r3 := 0) rfl rfl (by omega) ?_
                    refine wk_i ?_
                    refine wi_if (cd := .eq) (nx := 95) (r1 := 100) (r2 := 0) (r3 := 0) rfl (by omega) (fun (q55 : 0 = 0) => ?_) (fun (q55 : ¬ (0 = 0)) => by exfalso; omega)
                    refine wi_iconst (n := (-1)) (nx := 101) (r1 := 0) (r2 := 0) (r3 := 0) rfl ?_
                    refine wi_ireturn (nx := 102) (r1 := 0) (r2 := 0) (r3 := 0) rfl rfl ?_
                    exact k (-1) (by omega) (Or.inr ⟨Or.inr (tkn_8 wk12.no wk18.no wk24.no wk30.no wk36.no wk42.no wk48.no wk54.no), rfl⟩)
                  ·
                    have wk54 : tk_wd (tk_lw tB tn tp) = 20 := (tk_wcp 19 (K := 609752116) (by decide) rfl rfl (by omega) (by omega) (show tk_kd tB tn tp = 1 by omega) (show tk_sw tB tn tp = 609752116 by omega)).2
                    clear q53 fr52
                    refine wi_iconst (n := 1) (nx := 25) (r1 := 0) (r2 := 0) (r3 := 0) rfl ?_
                    refine wi_goto (nx := 28) (r1 := 29) (r2 := 0) (r3 := 0) rfl ?_
                    refine wi_zreturn (nx := 30) (r1 := 0) (r2 := 0) (r3 := 0) rfl rfl (by omega) ?_
                    refine wk_i ?_
                    refine wi_if (cd := .eq) (nx := 95) (r1 := 100) (r2 := 0) (r3 := 0) rfl (by omega) (fun (q55 : 1 = 0) => by exfalso; omega) (fun (q55 : ¬ (1 = 0)) => ?_)
                    refine wi_bipush (n := 7) (nx := 97) (r1 := 0) (r2 := 0) (r3 := 0) rfl (by decide) ?_
                    refine wi_goto (nx := 100) (r1 := 101) (r2 := 0) (r3 := 0) rfl ?_
                    refine wi_ireturn (nx := 102) (r1 := 0) (r2 := 0) (r3 := 0) rfl rfl ?_
                    exact k 7 (by omega) (Or.inl ⟨kf9.1, by omega, by omega, by omega, by omega⟩)
                ·
                  have wk48 : tk_wd (tk_lw tB tn tp) = 19 := (tk_wcp 18 (K := 646192) (by decide) rfl rfl (by omega) (by omega) (show tk_kd tB tn tp = 1 by omega) (show tk_sw tB tn tp = 646192 by omega)).2
                  clear q47 fr46
                  refine wi_iconst (n := 1) (nx := 25) (r1 := 0) (r2 := 0) (r3 := 0) rfl ?_
                  refine wi_goto (nx := 28) (r1 := 29) (r2 := 0) (r3 := 0) rfl ?_
                  refine wi_zreturn (nx := 30) (r1 := 0) (r2 := 0) (r3 := 0) rfl rfl (by omega) ?_
                  refine wk_i ?_
                  refine wi_if (cd := .eq) (nx := 82) (r1 := 85) (r2 := 0) (r3 := 0) rfl (by omega) (fun (q49 : 1 = 0) => by exfalso; omega) (fun (q49 : ¬ (1 = 0)) => ?_)
                  refine wi_bipush (n := 6) (nx := 84) (r1 := 0) (r2 := 0) (r3 := 0) rfl (by decide) ?_
                  refine wi_ireturn (nx := 85) (r1 := 0) (r2 := 0) (r3 := 0) rfl rfl ?_
                  exact k 6 (by omega) (Or.inl ⟨kf9.1, by omega, by omega, by omega, by omega⟩)
              ·
                have wk42 : tk_wd (tk_lw tB tn tp) = 18 := (tk_wcp 17 (K := 719731748) (by decide) rfl rfl (by omega) (by omega) (show tk_kd tB tn tp = 1 by omega) (show tk_sw tB tn tp = 719731748 by omega)).2
                clear q41 fr40
                refine wi_iconst (n := 1) (nx := 25) (r1 := 0) (r2 := 0) (r3 := 0) rfl ?_
                refine wi_goto (nx := 28) (r1 := 29) (r2 := 0) (r3 := 0) rfl ?_
                refine wi_zreturn (nx := 30) (r1 := 0) (r2 := 0) (r3 := 0) rfl rfl (by omega) ?_
                refine wk_i ?_
                refine wi_if (cd := .eq) (nx := 70) (r1 := 72) (r2 := 0) (r3 := 0) rfl (by omega) (fun (q43 : 1 = 0) => by exfalso; omega) (fun (q43 : ¬ (1 = 0)) => ?_)
                refine wi_iconst (n := 5) (nx := 71) (r1 := 0) (r2 := 0) (r3 := 0) rfl ?_
                refine wi_ireturn (nx := 72) (r1 := 0) (r2 := 0) (r3 := 0) rfl rfl ?_
                exact k 5 (by omega) (Or.inl ⟨kf9.1, by omega, by omega, by omega, by omega⟩)
            ·
              have wk36 : tk_wd (tk_lw tB tn tp) = 17 := (tk_wcp 16 (K := 643248) (by decide) rfl rfl (by omega) (by omega) (show tk_kd tB tn tp = 1 by omega) (show tk_sw tB tn tp = 643248 by omega)).2
              clear q35 fr34
              refine wi_iconst (n := 1) (nx := 25) (r1 := 0) (r2 := 0) (r3 := 0) rfl ?_
              refine wi_goto (nx := 28) (r1 := 29) (r2 := 0) (r3 := 0) rfl ?_
              refine wi_zreturn (nx := 30) (r1 := 0) (r2 := 0) (r3 := 0) rfl rfl (by omega) ?_
              refine wk_i ?_
              refine wi_if (cd := .eq) (nx := 58) (r1 := 60) (r2 := 0) (r3 := 0) rfl (by omega) (fun (q37 : 1 = 0) => by exfalso; omega) (fun (q37 : ¬ (1 = 0)) => ?_)
              refine wi_iconst (n := 4) (nx := 59) (r1 := 0) (r2 := 0) (r3 := 0) rfl ?_
              refine wi_ireturn (nx := 60) (r1 := 0) (r2 := 0) (r3 := 0) rfl rfl ?_
              exact k 4 (by omega) (Or.inl ⟨kf9.1, by omega, by omega, by omega, by omega⟩)
          ·
            have wk30 : tk_wd (tk_lw tB tn tp) = 16 := (tk_wcp 15 (K := 754996) (by decide) rfl rfl (by omega) (by omega) (show tk_kd tB tn tp = 1 by omega) (show tk_sw tB tn tp = 754996 by omega)).2
            clear q29 fr28
            refine wi_iconst (n := 1) (nx := 25) (r1 := 0) (r2 := 0) (r3 := 0) rfl ?_
            refine wi_goto (nx := 28) (r1 := 29) (r2 := 0) (r3 := 0) rfl ?_
            refine wi_zreturn (nx := 30) (r1 := 0) (r2 := 0) (r3 := 0) rfl rfl (by omega) ?_
            refine wk_i ?_
            refine wi_if (cd := .eq) (nx := 46) (r1 := 48) (r2 := 0) (r3 := 0) rfl (by omega) (fun (q31 : 1 = 0) => by exfalso; omega) (fun (q31 : ¬ (1 = 0)) => ?_)
            refine wi_iconst (n := 3) (nx := 47) (r1 := 0) (r2 := 0) (r3 := 0) rfl ?_
            refine wi_ireturn (nx := 48) (r1 := 0) (r2 := 0) (r3 := 0) rfl rfl ?_
            exact k 3 (by omega) (Or.inl ⟨kf9.1, by omega, by omega, by omega, by omega⟩)
        ·
          have wk24 : tk_wd (tk_lw tB tn tp) = 15 := (tk_wcp 14 (K := 66667) (by decide) rfl rfl (by omega) (by omega) (show tk_kd tB tn tp = 1 by omega) (show tk_sw tB tn tp = 66667 by omega)).2
          clear q23 fr22
          refine wi_iconst (n := 1) (nx := 25) (r1 := 0) (r2 := 0) (r3 := 0) rfl ?_
          refine wi_goto (nx := 28) (r1 := 29) (r2 := 0) (r3 := 0) rfl ?_
          refine wi_zreturn (nx := 30) (r1 := 0) (r2 := 0) (r3 := 0) rfl rfl (by omega) ?_
          refine wk_i ?_
          refine wi_if (cd := .eq) (nx := 34) (r1 := 36) (r2 := 0) (r3 := 0) rfl (by omega) (fun (q25 : 1 = 0) => by exfalso; omega) (fun (q25 : ¬ (1 = 0)) => ?_)
          refine wi_iconst (n := 2) (nx := 35) (r1 := 0) (r2 := 0) (r3 := 0) rfl ?_
          refine wi_ireturn (nx := 36) (r1 := 0) (r2 := 0) (r3 := 0) rfl rfl ?_
          exact k 2 (by omega) (Or.inl ⟨kf9.1, by omega, by omega, by omega, by omega⟩)
      ·
        have wk18 : tk_wd (tk_lw tB tn tp) = 14 := (tk_wcp 13 (K := 12748485) (by decide) rfl rfl (by omega) (by omega) (show tk_kd tB tn tp = 1 by omega) (show tk_sw tB tn tp = 12748485 by omega)).2
        clear q17 fr16
        refine wi_iconst (n := 1) (nx := 25) (r1 := 0) (r2 := 0) (r3 := 0) rfl ?_
        refine wi_goto (nx := 28) (r1 := 29) (r2 := 0) (r3 := 0) rfl ?_
        refine wi_zreturn (nx := 30) (r1 := 0) (r2 := 0) (r3 := 0) rfl rfl (by omega) ?_
        refine wk_i ?_
        refine wi_if (cd := .eq) (nx := 22) (r1 := 24) (r2 := 0) (r3 := 0) rfl (by omega) (fun (q19 : 1 = 0) => by exfalso; omega) (fun (q19 : ¬ (1 = 0)) => ?_)
        refine wi_iconst (n := 1) (nx := 23) (r1 := 0) (r2 := 0) (r3 := 0) rfl ?_
        refine wi_ireturn (nx := 24) (r1 := 0) (r2 := 0) (r3 := 0) rfl rfl ?_
        exact k 1 (by omega) (Or.inl ⟨kf9.1, by omega, by omega, by omega, by omega⟩)
    ·
      have wk12 : tk_wd (tk_lw tB tn tp) = 13 := (tk_wcp 12 (K := 5722290) (by decide) rfl rfl (by omega) (by omega) (show tk_kd tB tn tp = 1 by omega) (show tk_sw tB tn tp = 5722290 by omega)).2
      clear q11 fr10
      refine wi_iconst (n := 1) (nx := 25) (r1 := 0) (r2 := 0) (r3 := 0) rfl ?_
      refine wi_goto (nx := 28) (r1 := 29) (r2 := 0) (r3 := 0) rfl ?_
      refine wi_zreturn (nx := 30) (r1 := 0) (r2 := 0) (r3 := 0) rfl rfl (by omega) ?_
      refine wk_i ?_
      refine wi_if (cd := .eq) (nx := 10) (r1 := 12) (r2 := 0) (r3 := 0) rfl (by omega) (fun (q13 : 1 = 0) => by exfalso; omega) (fun (q13 : ¬ (1 = 0)) => ?_)
      refine wi_iconst (n := 0) (nx := 11) (r1 := 0) (r2 := 0) (r3 := 0) rfl ?_
      refine wi_ireturn (nx := 12) (r1 := 0) (r2 := 0) (r3 := 0) rfl rfl ?_
      exact k 0 (by omega) (Or.inl ⟨kf9.1, by omega, by omega, by omega, by omega⟩)
-- method 235: Model.mustSign(I)V
set_option maxRecDepth 100000 in
set_option maxHeartbeats 100000000 in
theorem ct_235_236_L40 {L : Nat} {xs : Nat → Int32} {d b c : Nat} {h : hp} {cr : Nat → Nat → Option Nat} {Q : hp_Q} (hcr : CR cr)  {tB : Nat → Int} {tn tp : Int} (g : GI h)   (pp0 : h 236 4 ≤ h 236 3) (pp1 : 0 ≤ tp) (pp2 : tp ≤ tn) (pp3 : tp ≤ tk_nx tB tn tp ∧ tk_nx tB tn tp ≤ tn) (pp4 : 1 ≤ h 236 8 ∨ (h 236 4 = tk_nx tB tn tp ∧ h 236 5 = tk_st tB tn tp ∧ TKk tB tn tp (h 236 6) (h 236 7) (h 236 12))) (xq0 : RefB tB tn h) (k : ∀ (h2 : hp) , GI h2 → FR [(236, 236, some (4, 4)), (236, 236, some (5, 5)), (236, 236, some (6, 6)), (236, 236, some (7, 7)), (236, 236, some (8, 8)), (236, 236, some (9, 9)), (236, 236, some (12, 12))] h h2 → ((1 ≤ h 236 8 ∧ h2 236 8 = h 236 8 ∧ h2 236 9 = h 236 9) ∨ (h 236 8 = 0 ∧ tk_kd tB tn tp = 4 ∧ h2 236 8 = h 236 8 ∧ h2 236 9 = h 236 9 ∧ (h2 236 4 = tk_nx tB tn (tk_nx tB tn tp) ∧ h2 236 5 = tk_st tB tn (tk_nx tB tn tp) ∧ TKk tB tn (tk_nx tB tn tp) (h2 236 6) (h2 236 7) (h2 236 12))) ∨ (h 236 8 = 0 ∧ tk_kd tB tn tp ≠ 4 ∧ h2 236 8 = 1 ∧ h2 236 9 = tk_st tB tn tp)) → (h 236 4 ≤ h2 236 4) → (h2 236 4 ≤ h 236 3) → (1 ≤ h2 236 8 ∨ h 236 8 = 0) → (1 ≤ h2 236 8 ∨ h2 236 6 = 0 ∨ h 236 4 + 1 ≤ h2 236 4) → Q (.inl none) (hp_w h2 cr) b c) : wp (md_xa (L, xs)) (d + 2) 235 (0, [(0, .ref 236), (1, vi 40)], [], hp_w h cr, b, c) Q := by
  have F0 : FR [(236, 236, some (4, 4)), (236, 236, some (5, 5)), (236, 236, some (6, 6)), (236, 236, some (7, 7)), (236, 236, some (8, 8)), (236, 236, some (9, 9)), (236, 236, some (12, 12))] h h := FR.refl
  have tb_1 : h 236 3 = tn := xq0.2.1
  have tb_2 : 0 ≤ tn ∧ tn ≤ 800 := xq0.2.2
  have b1 := gi_b (lo := 0) (hi := 800) g 236 4 rfl
  have b2 := gi_b (lo := 0) (hi := 800) g 236 3 rfl
  have b3 := gi_b (lo := 0) (hi := 5) g 236 8 rfl
  have b4 := gi_b (lo := 0) (hi := 800) g 236 5 rfl
  have b5 := gi_b (lo := 0) (hi := 4) g 236 6 rfl
  have b6 := gi_b (lo := 0) (hi := 999) g 236 7 rfl
  have b7 := gi_b (lo := -9223372036854775808) (hi := 9223372036854775807) g 236 12 rfl
  refine wi_aload_n (i := 0) (x := 236) (nx := 1) (r1 := 0) (r2 := 0) (r3 := 0) rfl rfl ?_
  refine wr_V (k0 := 236) (rest := []) (as := [.ref 236]) (nx := 4) (r1 := 219) (r2 := 0) (r3 := 11) rfl rfl rfl (of_decide_eq_true rfl) rfl rfl (by decide) rfl rfl (of_decide_eq_true rfl) (of_decide_eq_true rfl) ?_
  refine wi_aload_n (i := 0) (x := 236) (nx := 1) (r1 := 0) (r2 := 0) (r3 := 0) rfl rfl ?_
  refine wr_gi0 (k0 := 236) (x := h 236 8) (nx := 4) (r1 := 11) (r2 := 8) (r3 := 0) rfl rfl (by decide) rfl ⟨rfl, rfl⟩ rfl rfl ?_
  refine wi_if (cd := .ne) (nx := 7) (r1 := 11) (r2 := 0) (r3 := 0) rfl (by omega) (fun (q8 : (h 236 8) ≠ 0) => ?_) (fun (q8 : ¬ ((h 236 8) ≠ 0)) => ?_)
  ·
    replace q8 : 0 + 1 ≤ (h 236 8) := by omega
    refine wi_iconst (n := 0) (nx := 12) (r1 := 0) (r2 := 0) (r3 := 0) rfl ?_
    refine wi_zreturn (nx := 13) (r1 := 0) (r2 := 0) (r3 := 0) rfl rfl (by omega) ?_
    refine wk_i ?_
    refine wi_if (cd := .eq) (nx := 7) (r1 := 20) (r2 := 0) (r3 := 0) rfl (by omega) (fun (q10 : 0 = 0) => ?_) (fun (q10 : ¬ (0 = 0)) => by exfalso; omega)
    refine wi_aload_n (i := 0) (x := 236) (nx := 21) (r1 := 0) (r2 := 0) (r3 := 0) rfl rfl ?_
    refine wr_V (k0 := 236) (rest := []) (as := [.ref 236]) (nx := 24) (r1 := 219) (r2 := 0) (r3 := 11) rfl rfl rfl (of_decide_eq_true rfl) rfl rfl (by decide) rfl rfl (of_decide_eq_true rfl) (of_decide_eq_true rfl) ?_
    refine wi_aload_n (i := 0) (x := 236) (nx := 1) (r1 := 0) (r2 := 0) (r3 := 0) rfl rfl ?_
    refine wr_gi0 (k0 := 236) (x := h 236 8) (nx := 4) (r1 := 11) (r2 := 8) (r3 := 0) rfl rfl (by decide) rfl ⟨rfl, rfl⟩ rfl rfl ?_
    refine wi_if (cd := .ne) (nx := 7) (r1 := 11) (r2 := 0) (r3 := 0) rfl (by omega) (fun (q11 : (h 236 8) ≠ 0) => ?_) (fun (q11 : ¬ ((h 236 8) ≠ 0)) => by exfalso; omega)
    refine wi_iconst (n := 0) (nx := 12) (r1 := 0) (r2 := 0) (r3 := 0) rfl ?_
    refine wi_zreturn (nx := 13) (r1 := 0) (r2 := 0) (r3 := 0) rfl rfl (by omega) ?_
    refine wk_i ?_
    refine wi_if (cd := .eq) (nx := 27) (r1 := 31) (r2 := 0) (r3 := 0) rfl (by omega) (fun (q13 : 0 = 0) => ?_) (fun (q13 : ¬ (0 = 0)) => by exfalso; omega)
    refine wi_return (nx := 32) (r1 := 0) (r2 := 0) (r3 := 0) rfl rfl ?_
    have b14 := gi_b (lo := -2147483648) (hi := 2147483647) g 236 9 rfl
    exact k h g F0 (show (1 ≤ (h 236 8) ∧ (h 236 8) = (h 236 8) ∧ (h 236 9) = (h 236 9)) ∨ ((h 236 8) = 0 ∧ tk_kd tB tn tp = 4 ∧ (h 236 8) = (h 236 8) ∧ (h 236 9) = (h 236 9) ∧ ((h 236 4) = tk_nx tB tn (tk_nx tB tn tp) ∧ (h 236 5) = tk_st tB tn (tk_nx tB tn tp) ∧ TKk tB tn (tk_nx tB tn tp) ((h 236 6)) ((h 236 7)) ((h 236 12)))) ∨ ((h 236 8) = 0 ∧ tk_kd tB tn tp ≠ 4 ∧ (h 236 8) = 1 ∧ (h 236 9) = tk_st tB tn tp) from (Or.inl (by omega))) (show (h 236 4) ≤ (h 236 4) by omega) (show (h 236 4) ≤ (h 236 3) by omega) (show 1 ≤ (h 236 8) ∨ (h 236 8) = 0 from (Or.inl (by omega))) (show 1 ≤ (h 236 8) ∨ (h 236 6) = 0 ∨ (h 236 4) + 1 ≤ (h 236 4) from (Or.inl (by omega)))
  ·
    have kf9 := (pp4.resolve_left (by omega)).2.2
    refine wi_iconst (n := 1) (nx := 8) (r1 := 0) (r2 := 0) (r3 := 0) rfl ?_
    refine wi_goto (nx := 11) (r1 := 12) (r2 := 0) (r3 := 0) rfl ?_
    refine wi_zreturn (nx := 13) (r1 := 0) (r2 := 0) (r3 := 0) rfl rfl (by omega) ?_
    refine wk_i ?_
    refine wi_if (cd := .eq) (nx := 7) (r1 := 20) (r2 := 0) (r3 := 0) rfl (by omega) (fun (q10 : 1 = 0) => by exfalso; omega) (fun (q10 : ¬ (1 = 0)) => ?_)
    refine wi_aload_n (i := 0) (x := 236) (nx := 8) (r1 := 0) (r2 := 0) (r3 := 0) rfl rfl ?_
    refine wi_iload_n (i := 1) (e := 40) (nx := 9) (r1 := 0) (r2 := 0) (r3 := 0) rfl rfl ?_
    refine wr_V (k0 := 236) (rest := []) (as := [.ref 236, vi 40]) (nx := 12) (r1 := 236) (r2 := 1) (r3 := 11) rfl rfl rfl (of_decide_eq_true rfl) rfl rfl (by decide) rfl rfl (of_decide_eq_true rfl) (of_decide_eq_true rfl) ?_
    refine wi_aload_n (i := 0) (x := 236) (nx := 1) (r1 := 0) (r2 := 0) (r3 := 0) rfl rfl ?_
    refine wr_gi0 (k0 := 236) (x := h 236 8) (nx := 4) (r1 := 11) (r2 := 8) (r3 := 0) rfl rfl (by decide) rfl ⟨rfl, rfl⟩ rfl rfl ?_
    refine wi_if (cd := .ne) (nx := 7) (r1 := 27) (r2 := 0) (r3 := 0) rfl (by omega) (fun (q11 : (h 236 8) ≠ 0) => by exfalso; omega) (fun (q11 : ¬ ((h 236 8) ≠ 0)) => ?_)
    have kf12 := (pp4.resolve_left (by omega)).2.2
    refine wi_aload_n (i := 0) (x := 236) (nx := 8) (r1 := 0) (r2 := 0) (r3 := 0) rfl rfl ?_
    refine wr_gi0 (k0 := 236) (x := h 236 6) (nx := 11) (r1 := 11) (r2 := 6) (r3 := 0) rfl rfl (by decide) rfl ⟨rfl, rfl⟩ rfl rfl ?_
    refine wi_iconst (n := 3) (nx := 12) (r1 := 0) (r2 := 0) (r3 := 0) rfl ?_
    refine wi_icmp (cd := .ne) (nx := 15) (r1 := 27) (r2 := 0) (r3 := 0) rfl (by omega) (by omega) (fun (q13 : (h 236 6) ≠ 3) => ?_) (fun (q13 : ¬ ((h 236 6) ≠ 3)) => ?_)
    ·
      try have kf14 := TKk.n3 (B := tB) (n := tn) (p := tp) (a6 := h 236 6) (by assumption) (by omega)
      refine wi_iconst (n := 0) (nx := 28) (r1 := 0) (r2 := 0) (r3 := 0) rfl ?_
      refine wi_zreturn (nx := 29) (r1 := 0) (r2 := 0) (r3 := 0) rfl rfl (by omega) ?_
      refine wk_i ?_
      refine wi_if (cd := .ne) (nx := 15) (r1 := 20) (r2 := 0) (r3 := 0) rfl (by omega) (fun (q15 : 0 ≠ 0) => by exfalso; omega) (fun (q15 : ¬ (0 ≠ 0)) => ?_)
      refine wi_aload_n (i := 0) (x := 236) (nx := 16) (r1 := 0) (r2 := 0) (r3 := 0) rfl rfl ?_
      refine wi_iconst (n := 1) (nx := 17) (r1 := 0) (r2 := 0) (r3 := 0) rfl ?_
      refine wr_V (k0 := 236) (rest := []) (as := [.ref 236, vi 1]) (nx := 20) (r1 := 224) (r2 := 1) (r3 := 11) rfl rfl rfl (of_decide_eq_true rfl) rfl rfl (by decide) rfl rfl (of_decide_eq_true rfl) (of_decide_eq_true rfl) ?_
      refine ct_224_236 hcr  g 1 (by omega)  (fun h16 g16 u16 (p16_0 : 1 ≤ (h16 236 8)) (p16_1 : (1 ≤ (h 236 8) ∧ (h16 236 8) = (h 236 8) ∧ (h16 236 9) = (h 236 9)) ∨ ((h 236 8) = 0 ∧ (h16 236 9) = (h 236 5) ∧ (((h 236 6) = 4 ∧ (h16 236 8) = 1) ∨ ((h 236 6) ≠ 4 ∧ (h16 236 8) = 1)))) => ?_)
      have F17 := F0.then (by decide +kernel) u16
      have b18 := gi_b (lo := 0) (hi := 5) g16 236 8 rfl
      have b19 := gi_b (lo := -2147483648) (hi := 2147483647) g 236 9 rfl
      have b20 := gi_b (lo := -2147483648) (hi := 2147483647) g16 236 9 rfl
      refine wk_n ?_
      refine wi_aload_n (i := 0) (x := 236) (nx := 21) (r1 := 0) (r2 := 0) (r3 := 0) rfl rfl ?_
      refine wr_V (k0 := 236) (rest := []) (as := [.ref 236]) (nx := 24) (r1 := 219) (r2 := 0) (r3 := 11) rfl rfl rfl (of_decide_eq_true rfl) rfl rfl (by decide) rfl rfl (of_decide_eq_true rfl) (of_decide_eq_true rfl) ?_
      refine wi_aload_n (i := 0) (x := 236) (nx := 1) (r1 := 0) (r2 := 0) (r3 := 0) rfl rfl ?_
      refine wr_gi0 (k0 := 236) (x := h16 236 8) (nx := 4) (r1 := 11) (r2 := 8) (r3 := 0) rfl rfl (by decide) rfl ⟨rfl, rfl⟩ rfl rfl ?_
      refine wi_if (cd := .ne) (nx := 7) (r1 := 11) (r2 := 0) (r3 := 0) rfl (by omega) (fun (q21 : (h16 236 8) ≠ 0) => ?_) (fun (q21 : ¬ ((h16 236 8) ≠ 0)) => by exfalso; omega)
      refine wi_iconst (n := 0) (nx := 12) (r1 := 0) (r2 := 0) (r3 := 0) rfl ?_
      refine wi_zreturn (nx := 13) (r1 := 0) (r2 := 0) (r3 := 0) rfl rfl (by omega) ?_
      refine wk_i ?_
      refine wi_if (cd := .eq) (nx := 27) (r1 := 31) (r2 := 0) (r3 := 0) rfl (by omega) (fun (q23 : 0 = 0) => ?_) (fun (q23 : ¬ (0 = 0)) => by exfalso; omega)
      refine wi_return (nx := 32) (r1 := 0) (r2 := 0) (r3 := 0) rfl rfl ?_
      have e24 : h16 236 4 = h 236 4 := (u16 236 4 rfl)
      have e25 : h16 236 5 = h 236 5 := (u16 236 5 rfl)
      have e26 : h16 236 6 = h 236 6 := (u16 236 6 rfl)
      have e27 : h16 236 7 = h 236 7 := (u16 236 7 rfl)
      have e28 : h16 236 12 = h 236 12 := (u16 236 12 rfl)
      exact k h16 g16 F17 (show (1 ≤ (h 236 8) ∧ (h16 236 8) = (h 236 8) ∧ (h16 236 9) = (h 236 9)) ∨ ((h 236 8) = 0 ∧ tk_kd tB tn tp = 4 ∧ (h16 236 8) = (h 236 8) ∧ (h16 236 9) = (h 236 9) ∧ ((h16 236 4) = tk_nx tB tn (tk_nx tB tn tp) ∧ (h16 236 5) = tk_st tB tn (tk_nx tB tn tp) ∧ TKk tB tn (tk_nx tB tn tp) ((h16 236 6)) ((h16 236 7)) ((h16 236 12)))) ∨ ((h 236 8) = 0 ∧ tk_kd tB tn tp ≠ 4 ∧ (h16 236 8) = 1 ∧ (h16 236 9) = tk_st tB tn tp) from (Or.inr (Or.inr (by omega)))) (show (h 236 4) ≤ (h16 236 4) by omega) (show (h16 236 4) ≤ (h 236 3) by omega) (show 1 ≤ (h16 236 8) ∨ (h 236 8) = 0 from (Or.inl (by omega))) (show 1 ≤ (h16 236 8) ∨ (h16 236 6) = 0 ∨ (h 236 4) + 1 ≤ (h16 236 4) from (Or.inl (by omega)))
    ·
      refine wi_aload_n (i := 0) (x := 236) (nx := 16) (r1 := 0) (r2 := 0) (r3 := 0) rfl rfl ?_
      refine wr_gi0 (k0 := 236) (x := h 236 7) (nx := 19) (r1 := 11) (r2 := 7) (r3 := 0) rfl rfl (by decide) rfl ⟨rfl, rfl⟩ rfl rfl ?_
      refine wi_iload_n (i := 1) (e := 40) (nx := 20) (r1 := 0) (r2 := 0) (r3 := 0) rfl rfl ?_
      refine wi_icmp (cd := .ne) (nx := 23) (r1 := 27) (r2 := 0) (r3 := 0) rfl (by omega) (by omega) (fun (q15 : (h 236 7) ≠ 40) => ?_) (fun (q15 : ¬ ((h 236 7) ≠ 40)) => ?_)
      ·
        try have kf16 := TKk.t4 (B := tB) (n := tn) (p := tp) (a7 := h 236 7) (by assumption) (by omega)
        refine wi_iconst (n := 0) (nx := 28) (r1 := 0) (r2 := 0) (r3 := 0) rfl ?_
        refine wi_zreturn (nx := 29) (r1 := 0) (r2 := 0) (r3 := 0) rfl rfl (by omega) ?_
        refine wk_i ?_
        refine wi_if (cd := .ne) (nx := 15) (r1 := 20) (r2 := 0) (r3 := 0) rfl (by omega) (fun (q17 : 0 ≠ 0) => by exfalso; omega) (fun (q17 : ¬ (0 ≠ 0)) => ?_)
        refine wi_aload_n (i := 0) (x := 236) (nx := 16) (r1 := 0) (r2 := 0) (r3 := 0) rfl rfl ?_
        refine wi_iconst (n := 1) (nx := 17) (r1 := 0) (r2 := 0) (r3 := 0) rfl ?_
        refine wr_V (k0 := 236) (rest := []) (as := [.ref 236, vi 1]) (nx := 20) (r1 := 224) (r2 := 1) (r3 := 11) rfl rfl rfl (of_decide_eq_true rfl) rfl rfl (by decide) rfl rfl (of_decide_eq_true rfl) (of_decide_eq_true rfl) ?_
        refine ct_224_236 hcr  g 1 (by omega)  (fun h18 g18 u18 (p18_0 : 1 ≤ (h18 236 8)) (p18_1 : (1 ≤ (h 236 8) ∧ (h18 236 8) = (h 236 8) ∧ (h18 236 9) = (h 236 9)) ∨ ((h 236 8) = 0 ∧ (h18 236 9) = (h 236 5) ∧ (((h 236 6) = 4 ∧ (h18 236 8) = 1) ∨ ((h 236 6) ≠ 4 ∧ (h18 236 8) = 1)))) => ?_)
        have F19 := F0.then (by decide +kernel) u18
        have b20 := gi_b (lo := 0) (hi := 5) g18 236 8 rfl
        have b21 := gi_b (lo := -2147483648) (hi := 2147483647) g 236 9 rfl
        have b22 := gi_b (lo := -2147483648) (hi := 2147483647) g18 236 9 rfl
        refine wk_n ?_
        refine wi_aload_n (i := 0) (x := 236) (nx := 21) (r1 := 0) (r2 := 0) (r3 := 0) rfl rfl ?_
        refine wr_V (k0 := 236) (rest := []) (as := [.ref 236]) (nx := 24) (r1 := 219) (r2 := 0) (r3 := 11) rfl rfl rfl (of_decide_eq_true rfl) rfl rfl (by decide) rfl rfl (of_decide_eq_true rfl) (of_decide_eq_true rfl) ?_
        refine wi_aload_n (i := 0) (x := 236) (nx := 1) (r1 := 0) (r2 := 0) (r3 := 0) rfl rfl ?_
        refine wr_gi0 (k0 := 236) (x := h18 236 8) (nx := 4) (r1 := 11) (r2 := 8) (r3 := 0) rfl rfl (by decide) rfl ⟨rfl, rfl⟩ rfl rfl ?_
        refine wi_if (cd := .ne) (nx := 7) (r1 := 11) (r2 := 0) (r3 := 0) rfl (by omega) (fun (q23 : (h18 236 8) ≠ 0) => ?_) (fun (q23 : ¬ ((h18 236 8) ≠ 0)) => by exfalso; omega)
        refine wi_iconst (n := 0) (nx := 12) (r1 := 0) (r2 := 0) (r3 := 0) rfl ?_
        refine wi_zreturn (nx := 13) (r1 := 0) (r2 := 0) (r3 := 0) rfl rfl (by omega) ?_
        refine wk_i ?_
        refine wi_if (cd := .eq) (nx := 27) (r1 := 31) (r2 := 0) (r3 := 0) rfl (by omega) (fun (q25 : 0 = 0) => ?_) (fun (q25 : ¬ (0 = 0)) => by exfalso; omega)
        refine wi_return (nx := 32) (r1 := 0) (r2 := 0) (r3 := 0) rfl rfl ?_
        have e26 : h18 236 4 = h 236 4 := (u18 236 4 rfl)
        have e27 : h18 236 5 = h 236 5 := (u18 236 5 rfl)
        have e28 : h18 236 6 = h 236 6 := (u18 236 6 rfl)
        have e29 : h18 236 7 = h 236 7 := (u18 236 7 rfl)
        have e30 : h18 236 12 = h 236 12 := (u18 236 12 rfl)
        exact k h18 g18 F19 (show (1 ≤ (h 236 8) ∧ (h18 236 8) = (h 236 8) ∧ (h18 236 9) = (h 236 9)) ∨ ((h 236 8) = 0 ∧ tk_kd tB tn tp = 4 ∧ (h18 236 8) = (h 236 8) ∧ (h18 236 9) = (h 236 9) ∧ ((h18 236 4) = tk_nx tB tn (tk_nx tB tn tp) ∧ (h18 236 5) = tk_st tB tn (tk_nx tB tn tp) ∧ TKk tB tn (tk_nx tB tn tp) ((h18 236 6)) ((h18 236 7)) ((h18 236 12)))) ∨ ((h 236 8) = 0 ∧ tk_kd tB tn tp ≠ 4 ∧ (h18 236 8) = 1 ∧ (h18 236 9) = tk_st tB tn tp) from (Or.inr (Or.inr (by omega)))) (show (h 236 4) ≤ (h18 236 4) by omega) (show (h18 236 4) ≤ (h 236 3) by omega) (show 1 ≤ (h18 236 8) ∨ (h 236 8) = 0 from (Or.inl (by omega))) (show 1 ≤ (h18 236 8) ∨ (h18 236 6) = 0 ∨ (h 236 4) + 1 ≤ (h18 236 4) from (Or.inl (by omega)))
      ·
        try have kf16 := TKk.s4 (B := tB) (n := tn) (p := tp) (a7 := h 236 7) (by assumption) (by omega) (by omega)
        refine wi_iconst (n := 1) (nx := 24) (r1 := 0) (r2 := 0) (r3 := 0) rfl ?_
        refine wi_goto (nx := 27) (r1 := 28) (r2 := 0) (r3 := 0) rfl ?_
        refine wi_zreturn (nx := 29) (r1 := 0) (r2 := 0) (r3 := 0) rfl rfl (by omega) ?_
        refine wk_i ?_
        refine wi_if (cd := .ne) (nx := 15) (r1 := 20) (r2 := 0) (r3 := 0) rfl (by omega) (fun (q17 : 1 ≠ 0) => ?_) (fun (q17 : ¬ (1 ≠ 0)) => by exfalso; omega)
        refine wi_aload_n (i := 0) (x := 236) (nx := 21) (r1 := 0) (r2 := 0) (r3 := 0) rfl rfl ?_
        refine wr_V (k0 := 236) (rest := []) (as := [.ref 236]) (nx := 24) (r1 := 219) (r2 := 0) (r3 := 11) rfl rfl rfl (of_decide_eq_true rfl) rfl rfl (by decide) rfl rfl (of_decide_eq_true rfl) (of_decide_eq_true rfl) ?_
        refine wi_aload_n (i := 0) (x := 236) (nx := 1) (r1 := 0) (r2 := 0) (r3 := 0) rfl rfl ?_
        refine wr_gi0 (k0 := 236) (x := h 236 8) (nx := 4) (r1 := 11) (r2 := 8) (r3 := 0) rfl rfl (by decide) rfl ⟨rfl, rfl⟩ rfl rfl ?_
        refine wi_if (cd := .ne) (nx := 7) (r1 := 11) (r2 := 0) (r3 := 0) rfl (by omega) (fun (q18 : (h 236 8) ≠ 0) => by exfalso; omega) (fun (q18 : ¬ ((h 236 8) ≠ 0)) => ?_)
        have kf19 := (pp4.resolve_left (by omega)).2.2
        refine wi_iconst (n := 1) (nx := 8) (r1 := 0) (r2 := 0) (r3 := 0) rfl ?_
        refine wi_goto (nx := 11) (r1 := 12) (r2 := 0) (r3 := 0) rfl ?_
        refine wi_zreturn (nx := 13) (r1 := 0) (r2 := 0) (r3 := 0) rfl rfl (by omega) ?_
        refine wk_i ?_
        refine wi_if (cd := .eq) (nx := 27) (r1 := 31) (r2 := 0) (r3 := 0) rfl (by omega) (fun (q20 : 1 = 0) => by exfalso; omega) (fun (q20 : ¬ (1 = 0)) => ?_)
        refine wi_aload_n (i := 0) (x := 236) (nx := 28) (r1 := 0) (r2 := 0) (r3 := 0) rfl rfl ?_
        refine wr_V (k0 := 236) (rest := []) (as := [.ref 236]) (nx := 31) (r1 := 215) (r2 := 0) (r3 := 11) rfl rfl rfl (of_decide_eq_true rfl) rfl rfl (by decide) rfl rfl (of_decide_eq_true rfl) (of_decide_eq_true rfl) ?_
        refine ct_215_236 hcr  g   (show (h 236 4) ≤ (h 236 3) by omega) (show (h 236 4) = (tk_nx tB tn tp) by omega) (show 0 ≤ (tk_nx tB tn tp) by omega) (show (tk_nx tB tn tp) ≤ tn by omega) xq0 (fun h21 g21 u21 (p21_0 : (h 236 4) ≤ (h21 236 4)) (p21_1 : (h21 236 4) ≤ (h 236 3)) (p21_2 : ((h21 236 4) = tk_nx tB tn (tk_nx tB tn tp) ∧ (h21 236 5) = tk_st tB tn (tk_nx tB tn tp) ∧ TKk tB tn (tk_nx tB tn tp) ((h21 236 6)) ((h21 236 7)) ((h21 236 12)))) (p21_3 : (tk_nx tB tn tp) ≤ tk_nx tB tn (tk_nx tB tn tp) ∧ tk_nx tB tn (tk_nx tB tn tp) ≤ tn) => ?_)
        have F22 := F0.then (by decide +kernel) u21
        have b23 := gi_b (lo := 0) (hi := 800) g21 236 4 rfl
        have b24 := gi_b (lo := 0) (hi := 800) g21 236 5 rfl
        have b25 := gi_b (lo := 0) (hi := 4) g21 236 6 rfl
        have b26 := gi_b (lo := 0) (hi := 999) g21 236 7 rfl
        have b27 := gi_b (lo := -9223372036854775808) (hi := 9223372036854775807) g21 236 12 rfl
        have tkk28 := p21_2.2.2
        have tN29 := @tk_nx_b tB tn (tk_nx tB tn tp) (by omega) (by omega)
        have kz21 : h21 236 6 ≠ 0 → tk_kd tB tn (tk_nx tB tn tp) ≠ 0 := TKk.n0 p21_2.2.2
        refine wk_n ?_
        refine wi_return (nx := 32) (r1 := 0) (r2 := 0) (r3 := 0) rfl rfl ?_
        have e30 : h21 236 8 = h 236 8 := (u21 236 8 rfl)
        have b31 := gi_b (lo := -2147483648) (hi := 2147483647) g 236 9 rfl
        have e32 : h21 236 9 = h 236 9 := (u21 236 9 rfl)
        exact k h21 g21 F22 (show (1 ≤ (h 236 8) ∧ (h21 236 8) = (h 236 8) ∧ (h21 236 9) = (h 236 9)) ∨ ((h 236 8) = 0 ∧ tk_kd tB tn tp = 4 ∧ (h21 236 8) = (h 236 8) ∧ (h21 236 9) = (h 236 9) ∧ ((h21 236 4) = tk_nx tB tn (tk_nx tB tn tp) ∧ (h21 236 5) = tk_st tB tn (tk_nx tB tn tp) ∧ TKk tB tn (tk_nx tB tn tp) ((h21 236 6)) ((h21 236 7)) ((h21 236 12)))) ∨ ((h 236 8) = 0 ∧ tk_kd tB tn tp ≠ 4 ∧ (h21 236 8) = 1 ∧ (h21 236 9) = tk_st tB tn tp) from (Or.inr (Or.inl ⟨(by omega), (by omega), (by omega), (by omega), (show ((h21 236 4) = tk_nx tB tn (tk_nx tB tn tp) ∧ (h21 236 5) = tk_st tB tn (tk_nx tB tn tp) ∧ TKk tB tn (tk_nx tB tn tp) ((h21 236 6)) ((h21 236 7)) ((h21 236 12))) by first | assumption | exact ⟨by omega, by omega, TKk.mv (by assumption) (by omega) (by omega) (by omega)⟩)⟩))) (show (h 236 4) ≤ (h21 236 4) by omega) (show (h21 236 4) ≤ (h 236 3) by omega) (show 1 ≤ (h21 236 8) ∨ (h 236 8) = 0 from (Or.inr (by omega))) (show 1 ≤ (h21 236 8) ∨ (h21 236 6) = 0 ∨ (h 236 4) + 1 ≤ (h21 236 4) by omega)
