-- method 278: Model.keeps()V
set_option maxRecDepth 100000 in
set_option maxHeartbeats 100000000 in
theorem ct_278_236 {L : Nat} {xs : Nat → Int32} {d b c : Nat} {h : hp} {cr : Nat → Nat → Option Nat} {Q : hp_Q} (hcr : CR cr)  (g : GI h)   (pp0 : h 238 98 + h 238 99 + h 238 100 + h 238 101 + h 238 102 + h 238 106 = h 238 73) (pp1 : h 238 73 ≤ h 238 2) (pp2 : h 238 119 ≤ h 238 67) (pp3 : h 238 69 ≤ h 238 5) (pp4 : h 238 2 ≤ 12 * h 238 5) (xq0 : GPS h) (gp0 : GPH h) (k : ∀ (h2 : hp) , GI h2 → FR [(236, 236, some (22, 22)), (242, 242, some (0, 999)), (242, 242, some (1000, 1199))] h h2 → (1 ≤ h2 236 22) → (GPS h2) → (GPH h2) → Q (.inl none) (hp_w h2 cr) b c) : wp (md_xa (L, xs)) d 278 (0, [(0, .ref 236)], [], hp_w h cr, b, c) Q := by
  have F0 : FR [(236, 236, some (22, 22)), (242, 242, some (0, 999)), (242, 242, some (1000, 1199))] h h := FR.refl
  have b1 := gi_b (lo := 0) (hi := 6) g 238 98 rfl
  have b2 := gi_b (lo := 0) (hi := 6) g 238 99 rfl
  have b3 := gi_b (lo := 0) (hi := 6) g 238 100 rfl
  have b4 := gi_b (lo := 0) (hi := 6) g 238 101 rfl
  have b5 := gi_b (lo := 0) (hi := 3) g 238 102 rfl
  have b6 := gi_b (lo := 0) (hi := 12) g 238 106 rfl
  have b7 := gi_b (lo := 0) (hi := 12) g 238 73 rfl
  have b8 := gi_b (lo := 0) (hi := 12) g 238 2 rfl
  have b9 := gi_b (lo := 0) (hi := 9999) g 238 119 rfl
  have b10 := gi_b (lo := 0) (hi := 9999) g 238 67 rfl
  have b11 := gi_b (lo := 0) (hi := 9) g 238 69 rfl
  have b12 := gi_b (lo := 0) (hi := 9) g 238 5 rfl
  refine wi_aload_n (i := 0) (x := 236) (nx := 1) (r1 := 0) (r2 := 0) (r3 := 0) rfl rfl ?_
  have b13 := gi_b (lo := 0) (hi := 6) g 236 22 rfl
  rcases (show h 236 22 = 0 ∨ h 236 22 = 1 ∨ h 236 22 = 2 ∨ h 236 22 = 3 ∨ h 236 22 = 4 ∨ h 236 22 = 5 ∨ h 236 22 = 6 by omega) with q14 | q14 | q14 | q14 | q14 | q14 | q14
  ·
    refine wr_gi0 (k0 := 236) (x := 0) (nx := 4) (r1 := 11) (r2 := 22) (r3 := 0) rfl rfl (by decide) rfl ⟨rfl, rfl⟩ rfl q14 ?_
    refine wi_bipush (n := 6) (nx := 6) (r1 := 0) (r2 := 0) (r3 := 0) rfl (by decide) ?_
    refine wi_icmp (cd := .ne) (nx := 9) (r1 := 55) (r2 := 0) (r3 := 0) rfl (by omega) (by omega) (fun (q15 : 0 ≠ 6) => ?_) (fun (q15 : ¬ (0 ≠ 6)) => by exfalso; omega)
    refine wi_iconst (n := 0) (nx := 56) (r1 := 0) (r2 := 0) (r3 := 0) rfl ?_
    refine wi_istore_n (i := 1) (e := 0) (lo2 := [(1, vi 0), (0, .ref 236)]) (nx := 57) (r1 := 0) (r2 := 0) (r3 := 0) rfl rfl ?_
    refine wp.lo (lo := [(0, .ref 236), (1, vi 0)]) ⟨rfl, rfl, trivial⟩ rfl ?_
    refine wl_1 (fun x16 h17 => GI h17 ∧ FR [(236, 236, some (22, 22)), (242, 242, some (0, 999)), (242, 242, some (1000, 1199))] h h17 ∧ FR [(242, 242, some (0, 199))] h h17 ∧ ((0 ≤ x16 ∧ x16 ≤ 200)) ∧ (∀ q : Nat, (q : Int) < x16 → h17 242 q = h 238 q) ∧ (∀ q : Nat, x16 ≤ (q : Int) → h17 242 q = h 242 q)) (fun x16 h17 => ((200 : Int) + 1 - x16).toNat) (fun x16 h17 => (57, [(0, .ref 236), (1, vi x16)], [], hp_w h17 cr, b, c)) ?_ 0 h ⟨g, F0, FR.refl, (show (0 ≤ 0 ∧ 0 ≤ 200) by omega), (fun q e => absurd e (by omega)), (fun _ _ => rfl)⟩
    intro x16 h17 ⟨g17, F18, u17, f17, XA17, XB17⟩ I17
    refine wi_iload_n (i := 1) (e := x16) (nx := 58) (r1 := 0) (r2 := 0) (r3 := 0) rfl rfl ?_
    refine wi_sipush (n := 200) (nx := 61) (r1 := 0) (r2 := 0) (r3 := 0) rfl (by decide) ?_
    refine wi_icmp (cd := .ge) (nx := 64) (r1 := 91) (r2 := 0) (r3 := 0) rfl (by omega) (by omega) (fun (q19 : 200 ≤ x16) => ?_) (fun (q19 : ¬ (200 ≤ x16)) => ?_)
    ·
      refine wi_aload_n (i := 0) (x := 236) (nx := 92) (r1 := 0) (r2 := 0) (r3 := 0) rfl rfl ?_
      refine wi_dup (nx := 93) (r1 := 0) (r2 := 0) (r3 := 0) rfl rfl ?_
      refine wr_gi0 (k0 := 236) (x := 0) (nx := 96) (r1 := 11) (r2 := 22) (r3 := 0) rfl rfl (by decide) rfl ⟨rfl, rfl⟩ rfl ((u17 236 22 rfl).trans q14) ?_
      refine wi_iconst (n := 1) (nx := 97) (r1 := 0) (r2 := 0) (r3 := 0) rfl ?_
      refine wr_addL (1) (nx := 98) (r1 := 0) (r2 := 0) (r3 := 0) rfl (by decide) ?_
      refine wr_pf0 (k0 := 236) (x := 1) (bl := 0) (bh := 6) (nx := 101) (r1 := 11) (r2 := 22) (r3 := 0) rfl (by decide) rfl ⟨rfl, rfl⟩ rfl rfl g17 rfl (by omega) (fun h20 g20 w20 u20 => ?_)
      have F21 := F18.then rfl u20
      refine wi_return (nx := 102) (r1 := 0) (r2 := 0) (r3 := 0) rfl rfl ?_
      have e22 : h20 236 22 = 1 := w20
      have e23 : h 236 22 = 0 := q14
      have gs24 : GPS h20 := GPS.put (u := 0) (k := 238) xq0 (by omega) (by omega) (fun i hi => ((u20 238 i (fn_a (by omega) fn_0)).trans (u17 238 i (fn_a (by decide) fn_0)))) (fun i hi => rfl) (fun q e => by rw [show 200 * 0 + q = q by omega]; exact ((u20 242 ((q)) (fn_a (by omega) fn_0)).trans (XA17 q (by omega)))) (fun q e => ((u20 242 q (fn_a (by omega) fn_0)).trans (XB17 q (by omega))))
      have gp25 : GPH h17 := GPH.put (u := 0) (k := 238) gp0 (RS.i0 (f := h 238) (by refine ⟨?_, ?_, ?_, ?_, ?_⟩ <;> omega)) (fun q e => by rw [show 200 * 0 + q = q by omega]; exact XA17 q (by omega)) (fun q e => XB17 q (by omega))
      have gp26 := GPH.fr u20 rfl gp25
      exact k h20 g20 F21 (show 1 ≤ (h20 236 22) by omega) gs24 gp26
    ·
      refine wi_aload_n (i := 0) (x := 236) (nx := 65) (r1 := 0) (r2 := 0) (r3 := 0) rfl rfl ?_
      refine wr_gr (k0 := 236) (x := 242) (nx := 68) (r1 := 11) (r2 := 17) (r3 := 0) rfl rfl (by decide) rfl ⟨rfl, rfl⟩ rfl ?_
      refine wi_sipush (n := 200) (nx := 71) (r1 := 0) (r2 := 0) (r3 := 0) rfl (by decide) ?_
      refine wi_aload_n (i := 0) (x := 236) (nx := 72) (r1 := 0) (r2 := 0) (r3 := 0) rfl rfl ?_
      refine wr_gi0 (k0 := 236) (x := 0) (nx := 75) (r1 := 11) (r2 := 22) (r3 := 0) rfl rfl (by decide) rfl ⟨rfl, rfl⟩ rfl ((u17 236 22 rfl).trans q14) ?_
      refine wr_mulL (0) (nx := 76) (r1 := 0) (r2 := 0) (r3 := 0) rfl (by decide) ?_
      refine wi_iload_n (i := 1) (e := x16) (nx := 77) (r1 := 0) (r2 := 0) (r3 := 0) rfl rfl ?_
      refine wr_add (nx := 78) (r1 := 0) (r2 := 0) (r3 := 0) rfl (fun e20 (fe20 : e20 = 0 + x16) => ?_)
      refine wi_aload_n (i := 0) (x := 236) (nx := 79) (r1 := 0) (r2 := 0) (r3 := 0) rfl rfl ?_
      refine wr_gr (k0 := 236) (x := 238) (nx := 82) (r1 := 11) (r2 := 13) (r3 := 0) rfl rfl (by decide) rfl ⟨rfl, rfl⟩ rfl ?_
      refine wi_iload_n (i := 1) (e := x16) (nx := 83) (r1 := 0) (r2 := 0) (r3 := 0) rfl rfl ?_
      obtain ⟨i21, ei21⟩ : ∃ q : Nat, x16 = (q : Int) := ⟨(x16).toNat, by omega⟩
      refine wr_ia (k0 := 238) (a := x16) (f := i21) (x := h 238 i21) (nx := 84) (r1 := 0) (r2 := 0) (r3 := 0) rfl (by decide) rfl (by omega) (by omega) (by decide) (u17 238 i21 (fn_a (by decide) fn_0)) ?_
      refine wr_iv (k0 := 242) (a := e20) (f := i21) (x := h 238 i21) (nx := 85) (r1 := 0) (r2 := 0) (r3 := 0) rfl (by decide) rfl (by omega) (by omega) (by decide) g17 (gi_rp (by omega) (fun _ => rfl) (g 238 i21)) (fun h22 g22 w22 u22 => ?_)
      have F23 := F18.then rfl (FR.idx (p := 0) (q := 199) u22 (by omega))
      have F24 := u17.then rfl (FR.idx (p := 0) (q := 199) u22 (by omega))
      refine wr_iinc (i := 1) (n := 1) (v := x16) (fun e25 => [(1, vi e25), (0, .ref 236)]) (nx := 88) (r1 := 0) (r2 := 0) (r3 := 0) rfl rfl (fun _ => rfl) (fun e25 (fe25 : e25 = x16 + 1) => ?_)
      refine wi_goto (nx := 91) (r1 := 57) (r2 := 0) (r3 := 0) rfl ?_
      refine wp.lo (lo := [(0, .ref 236), (1, vi e25)]) ⟨rfl, rfl, trivial⟩ rfl ?_
      exact I17 e25 h22 ⟨g22, F23, F24, (show (0 ≤ e25 ∧ e25 ≤ 200) by omega), (fun q e => by
          by_cases e1 : (q : Int) < x16
          · exact (u22 242 _ (fn_i (by omega) fn_0)).trans (XA17 q e1)
          · have e2 : q = i21 := by omega
            have e3 : q = i21 := by omega
            exact (congrArg (h22 242) e2).trans (w22.trans ((Eq.refl _).trans (congrArg (h 238) e3).symm))), (fun q e => (u22 242 q (fn_i (by omega) fn_0)).trans (XB17 q (by omega)))⟩ (show ((200 : Int) + 1 - e25).toNat < ((200 : Int) + 1 - x16).toNat by omega)
  ·
    refine wr_gi0 (k0 := 236) (x := 1) (nx := 4) (r1 := 11) (r2 := 22) (r3 := 0) rfl rfl (by decide) rfl ⟨rfl, rfl⟩ rfl q14 ?_
    refine wi_bipush (n := 6) (nx := 6) (r1 := 0) (r2 := 0) (r3 := 0) rfl (by decide) ?_
    refine wi_icmp (cd := .ne) (nx := 9) (r1 := 55) (r2 := 0) (r3 := 0) rfl (by omega) (by omega) (fun (q15 : 1 ≠ 6) => ?_) (fun (q15 : ¬ (1 ≠ 6)) => by exfalso; omega)
    refine wi_iconst (n := 0) (nx := 56) (r1 := 0) (r2 := 0) (r3 := 0) rfl ?_
    refine wi_istore_n (i := 1) (e := 0) (lo2 := [(1, vi 0), (0, .ref 236)]) (nx := 57) (r1 := 0) (r2 := 0) (r3 := 0) rfl rfl ?_
    refine wp.lo (lo := [(0, .ref 236), (1, vi 0)]) ⟨rfl, rfl, trivial⟩ rfl ?_
    refine wl_1 (fun x16 h17 => GI h17 ∧ FR [(236, 236, some (22, 22)), (242, 242, some (0, 999)), (242, 242, some (1000, 1199))] h h17 ∧ FR [(242, 242, some (200, 399))] h h17 ∧ ((0 ≤ x16 ∧ x16 ≤ 200)) ∧ (∀ q : Nat, (q : Int) < x16 → h17 242 (200 + q) = h 238 q) ∧ (∀ q : Nat, (q < 200 ∨ (200 : Nat) + x16 ≤ (q : Int)) → h17 242 q = h 242 q)) (fun x16 h17 => ((200 : Int) + 1 - x16).toNat) (fun x16 h17 => (57, [(0, .ref 236), (1, vi x16)], [], hp_w h17 cr, b, c)) ?_ 0 h ⟨g, F0, FR.refl, (show (0 ≤ 0 ∧ 0 ≤ 200) by omega), (fun q e => absurd e (by omega)), (fun _ _ => rfl)⟩
    intro x16 h17 ⟨g17, F18, u17, f17, XA17, XB17⟩ I17
    refine wi_iload_n (i := 1) (e := x16) (nx := 58) (r1 := 0) (r2 := 0) (r3 := 0) rfl rfl ?_
    refine wi_sipush (n := 200) (nx := 61) (r1 := 0) (r2 := 0) (r3 := 0) rfl (by decide) ?_
    refine wi_icmp (cd := .ge) (nx := 64) (r1 := 91) (r2 := 0) (r3 := 0) rfl (by omega) (by omega) (fun (q19 : 200 ≤ x16) => ?_) (fun (q19 : ¬ (200 ≤ x16)) => ?_)
    ·
      refine wi_aload_n (i := 0) (x := 236) (nx := 92) (r1 := 0) (r2 := 0) (r3 := 0) rfl rfl ?_
      refine wi_dup (nx := 93) (r1 := 0) (r2 := 0) (r3 := 0) rfl rfl ?_
      refine wr_gi0 (k0 := 236) (x := 1) (nx := 96) (r1 := 11) (r2 := 22) (r3 := 0) rfl rfl (by decide) rfl ⟨rfl, rfl⟩ rfl ((u17 236 22 rfl).trans q14) ?_
      refine wi_iconst (n := 1) (nx := 97) (r1 := 0) (r2 := 0) (r3 := 0) rfl ?_
      refine wr_addL (2) (nx := 98) (r1 := 0) (r2 := 0) (r3 := 0) rfl (by decide) ?_
      refine wr_pf0 (k0 := 236) (x := 2) (bl := 0) (bh := 6) (nx := 101) (r1 := 11) (r2 := 22) (r3 := 0) rfl (by decide) rfl ⟨rfl, rfl⟩ rfl rfl g17 rfl (by omega) (fun h20 g20 w20 u20 => ?_)
      have F21 := F18.then rfl u20
      refine wi_return (nx := 102) (r1 := 0) (r2 := 0) (r3 := 0) rfl rfl ?_
      have e22 : h20 236 22 = 2 := w20
      have e23 : h 236 22 = 1 := q14
      have gs24 : GPS h20 := GPS.put (u := 1) (k := 238) xq0 (by omega) (by omega) (fun i hi => ((u20 238 i (fn_a (by omega) fn_0)).trans (u17 238 i (fn_a (by decide) fn_0)))) (fun i hi => rfl) (fun q e => by rw [show 200 * 1 + q = 200 + q by omega]; exact ((u20 242 ((200 + q)) (fn_a (by omega) fn_0)).trans (XA17 q (by omega)))) (fun q e => ((u20 242 q (fn_a (by omega) fn_0)).trans (XB17 q (by omega))))
      have gp25 : GPH h17 := GPH.put (u := 1) (k := 238) gp0 (RS.i0 (f := h 238) (by refine ⟨?_, ?_, ?_, ?_, ?_⟩ <;> omega)) (fun q e => by rw [show 200 * 1 + q = 200 + q by omega]; exact XA17 q (by omega)) (fun q e => XB17 q (by omega))
      have gp26 := GPH.fr u20 rfl gp25
      exact k h20 g20 F21 (show 1 ≤ (h20 236 22) by omega) gs24 gp26
    ·
      refine wi_aload_n (i := 0) (x := 236) (nx := 65) (r1 := 0) (r2 := 0) (r3 := 0) rfl rfl ?_
      refine wr_gr (k0 := 236) (x := 242) (nx := 68) (r1 := 11) (r2 := 17) (r3 := 0) rfl rfl (by decide) rfl ⟨rfl, rfl⟩ rfl ?_
      refine wi_sipush (n := 200) (nx := 71) (r1 := 0) (r2 := 0) (r3 := 0) rfl (by decide) ?_
      refine wi_aload_n (i := 0) (x := 236) (nx := 72) (r1 := 0) (r2 := 0) (r3 := 0) rfl rfl ?_
      refine wr_gi0 (k0 := 236) (x := 1) (nx := 75) (r1 := 11) (r2 := 22) (r3 := 0) rfl rfl (by decide) rfl ⟨rfl, rfl⟩ rfl ((u17 236 22 rfl).trans q14) ?_
      refine wr_mulL (200) (nx := 76) (r1 := 0) (r2 := 0) (r3 := 0) rfl (by decide) ?_
      refine wi_iload_n (i := 1) (e := x16) (nx := 77) (r1 := 0) (r2 := 0) (r3 := 0) rfl rfl ?_
      refine wr_add (nx := 78) (r1 := 0) (r2 := 0) (r3 := 0) rfl (fun e20 (fe20 : e20 = 200 + x16) => ?_)
      refine wi_aload_n (i := 0) (x := 236) (nx := 79) (r1 := 0) (r2 := 0) (r3 := 0) rfl rfl ?_
      refine wr_gr (k0 := 236) (x := 238) (nx := 82) (r1 := 11) (r2 := 13) (r3 := 0) rfl rfl (by decide) rfl ⟨rfl, rfl⟩ rfl ?_
      refine wi_iload_n (i := 1) (e := x16) (nx := 83) (r1 := 0) (r2 := 0) (r3 := 0) rfl rfl ?_
      obtain ⟨i21, ei21⟩ : ∃ q : Nat, x16 = (q : Int) := ⟨(x16).toNat, by omega⟩
      refine wr_ia (k0 := 238) (a := x16) (f := i21) (x := h 238 i21) (nx := 84) (r1 := 0) (r2 := 0) (r3 := 0) rfl (by decide) rfl (by omega) (by omega) (by decide) (u17 238 i21 (fn_a (by decide) fn_0)) ?_
      obtain ⟨i22, ei22⟩ : ∃ q : Nat, e20 = (q : Int) := ⟨(e20).toNat, by omega⟩
      refine wr_iv (k0 := 242) (a := e20) (f := i22) (x := h 238 i21) (nx := 85) (r1 := 0) (r2 := 0) (r3 := 0) rfl (by decide) rfl (by omega) (by omega) (by decide) g17 (gi_rp (by omega) (fun _ => rfl) (g 238 i21)) (fun h23 g23 w23 u23 => ?_)
      have F24 := F18.then rfl (FR.idx (p := 200) (q := 399) u23 (by omega))
      have F25 := u17.then rfl (FR.idx (p := 200) (q := 399) u23 (by omega))
      refine wr_iinc (i := 1) (n := 1) (v := x16) (fun e26 => [(1, vi e26), (0, .ref 236)]) (nx := 88) (r1 := 0) (r2 := 0) (r3 := 0) rfl rfl (fun _ => rfl) (fun e26 (fe26 : e26 = x16 + 1) => ?_)
      refine wi_goto (nx := 91) (r1 := 57) (r2 := 0) (r3 := 0) rfl ?_
      refine wp.lo (lo := [(0, .ref 236), (1, vi e26)]) ⟨rfl, rfl, trivial⟩ rfl ?_
      exact I17 e26 h23 ⟨g23, F24, F25, (show (0 ≤ e26 ∧ e26 ≤ 200) by omega), (fun q e => by
          by_cases e1 : (q : Int) < x16
          · exact (u23 242 _ (fn_i (by omega) fn_0)).trans (XA17 q e1)
          · have e2 : 200 + q = i22 := by omega
            have e3 : q = i21 := by omega
            exact (congrArg (h23 242) e2).trans (w23.trans ((Eq.refl _).trans (congrArg (h 238) e3).symm))), (fun q e => (u23 242 q (fn_i (by omega) fn_0)).trans (XB17 q (by omega)))⟩ (show ((200 : Int) + 1 - e26).toNat < ((200 : Int) + 1 - x16).toNat by omega)
  ·
    refine wr_gi0 (k0 := 236) (x := 2) (nx := 4) (r1 := 11) (r2 := 22) (r3 := 0) rfl rfl (by decide) rfl ⟨rfl, rfl⟩ rfl q14 ?_
    refine wi_bipush (n := 6) (nx := 6) (r1 := 0) (r2 := 0) (r3 := 0) rfl (by decide) ?_
    refine wi_icmp (cd := .ne) (nx := 9) (r1 := 55) (r2 := 0) (r3 := 0) rfl (by omega) (by omega) (fun (q15 : 2 ≠ 6) => ?_) (fun (q15 : ¬ (2 ≠ 6)) => by exfalso; omega)
    refine wi_iconst (n := 0) (nx := 56) (r1 := 0) (r2 := 0) (r3 := 0) rfl ?_
    refine wi_istore_n (i := 1) (e := 0) (lo2 := [(1, vi 0), (0, .ref 236)]) (nx := 57) (r1 := 0) (r2 := 0) (r3 := 0) rfl rfl ?_
    refine wp.lo (lo := [(0, .ref 236), (1, vi 0)]) ⟨rfl, rfl, trivial⟩ rfl ?_
    refine wl_1 (fun x16 h17 => GI h17 ∧ FR [(236, 236, some (22, 22)), (242, 242, some (0, 999)), (242, 242, some (1000, 1199))] h h17 ∧ FR [(242, 242, some (400, 599))] h h17 ∧ ((0 ≤ x16 ∧ x16 ≤ 200)) ∧ (∀ q : Nat, (q : Int) < x16 → h17 242 (400 + q) = h 238 q) ∧ (∀ q : Nat, (q < 400 ∨ (400 : Nat) + x16 ≤ (q : Int)) → h17 242 q = h 242 q)) (fun x16 h17 => ((200 : Int) + 1 - x16).toNat) (fun x16 h17 => (57, [(0, .ref 236), (1, vi x16)], [], hp_w h17 cr, b, c)) ?_ 0 h ⟨g, F0, FR.refl, (show (0 ≤ 0 ∧ 0 ≤ 200) by omega), (fun q e => absurd e (by omega)), (fun _ _ => rfl)⟩
    intro x16 h17 ⟨g17, F18, u17, f17, XA17, XB17⟩ I17
    refine wi_iload_n (i := 1) (e := x16) (nx := 58) (r1 := 0) (r2 := 0) (r3 := 0) rfl rfl ?_
    refine wi_sipush (n := 200) (nx := 61) (r1 := 0) (r2 := 0) (r3 := 0) rfl (by decide) ?_
    refine wi_icmp (cd := .ge) (nx := 64) (r1 := 91) (r2 := 0) (r3 := 0) rfl (by omega) (by omega) (fun (q19 : 200 ≤ x16) => ?_) (fun (q19 : ¬ (200 ≤ x16)) => ?_)
    ·
      refine wi_aload_n (i := 0) (x := 236) (nx := 92) (r1 := 0) (r2 := 0) (r3 := 0) rfl rfl ?_
      refine wi_dup (nx := 93) (r1 := 0) (r2 := 0) (r3 := 0) rfl rfl ?_
      refine wr_gi0 (k0 := 236) (x := 2) (nx := 96) (r1 := 11) (r2 := 22) (r3 := 0) rfl rfl (by decide) rfl ⟨rfl, rfl⟩ rfl ((u17 236 22 rfl).trans q14) ?_
      refine wi_iconst (n := 1) (nx := 97) (r1 := 0) (r2 := 0) (r3 := 0) rfl ?_
      refine wr_addL (3) (nx := 98) (r1 := 0) (r2 := 0) (r3 := 0) rfl (by decide) ?_
      refine wr_pf0 (k0 := 236) (x := 3) (bl := 0) (bh := 6) (nx := 101) (r1 := 11) (r2 := 22) (r3 := 0) rfl (by decide) rfl ⟨rfl, rfl⟩ rfl rfl g17 rfl (by omega) (fun h20 g20 w20 u20 => ?_)
      have F21 := F18.then rfl u20
      refine wi_return (nx := 102) (r1 := 0) (r2 := 0) (r3 := 0) rfl rfl ?_
      have e22 : h20 236 22 = 3 := w20
      have e23 : h 236 22 = 2 := q14
      have gs24 : GPS h20 := GPS.put (u := 2) (k := 238) xq0 (by omega) (by omega) (fun i hi => ((u20 238 i (fn_a (by omega) fn_0)).trans (u17 238 i (fn_a (by decide) fn_0)))) (fun i hi => rfl) (fun q e => by rw [show 200 * 2 + q = 400 + q by omega]; exact ((u20 242 ((400 + q)) (fn_a (by omega) fn_0)).trans (XA17 q (by omega)))) (fun q e => ((u20 242 q (fn_a (by omega) fn_0)).trans (XB17 q (by omega))))
      have gp25 : GPH h17 := GPH.put (u := 2) (k := 238) gp0 (RS.i0 (f := h 238) (by refine ⟨?_, ?_, ?_, ?_, ?_⟩ <;> omega)) (fun q e => by rw [show 200 * 2 + q = 400 + q by omega]; exact XA17 q (by omega)) (fun q e => XB17 q (by omega))
      have gp26 := GPH.fr u20 rfl gp25
      exact k h20 g20 F21 (show 1 ≤ (h20 236 22) by omega) gs24 gp26
    ·
      refine wi_aload_n (i := 0) (x := 236) (nx := 65) (r1 := 0) (r2 := 0) (r3 := 0) rfl rfl ?_
      refine wr_gr (k0 := 236) (x := 242) (nx := 68) (r1 := 11) (r2 := 17) (r3 := 0) rfl rfl (by decide) rfl ⟨rfl, rfl⟩ rfl ?_
      refine wi_sipush (n := 200) (nx := 71) (r1 := 0) (r2 := 0) (r3 := 0) rfl (by decide) ?_
      refine wi_aload_n (i := 0) (x := 236) (nx := 72) (r1 := 0) (r2 := 0) (r3 := 0) rfl rfl ?_
      refine wr_gi0 (k0 := 236) (x := 2) (nx := 75) (r1 := 11) (r2 := 22) (r3 := 0) rfl rfl (by decide) rfl ⟨rfl, rfl⟩ rfl ((u17 236 22 rfl).trans q14) ?_
      refine wr_mulL (400) (nx := 76) (r1 := 0) (r2 := 0) (r3 := 0) rfl (by decide) ?_
      refine wi_iload_n (i := 1) (e := x16) (nx := 77) (r1 := 0) (r2 := 0) (r3 := 0) rfl rfl ?_
      refine wr_add (nx := 78) (r1 := 0) (r2 := 0) (r3 := 0) rfl (fun e20 (fe20 : e20 = 400 + x16) => ?_)
      refine wi_aload_n (i := 0) (x := 236) (nx := 79) (r1 := 0) (r2 := 0) (r3 := 0) rfl rfl ?_
      refine wr_gr (k0 := 236) (x := 238) (nx := 82) (r1 := 11) (r2 := 13) (r3 := 0) rfl rfl (by decide) rfl ⟨rfl, rfl⟩ rfl ?_
      refine wi_iload_n (i := 1) (e := x16) (nx := 83) (r1 := 0) (r2 := 0) (r3 := 0) rfl rfl ?_
      obtain ⟨i21, ei21⟩ : ∃ q : Nat, x16 = (q : Int) := ⟨(x16).toNat, by omega⟩
      refine wr_ia (k0 := 238) (a := x16) (f := i21) (x := h 238 i21) (nx := 84) (r1 := 0) (r2 := 0) (r3 := 0) rfl (by decide) rfl (by omega) (by omega) (by decide) (u17 238 i21 (fn_a (by decide) fn_0)) ?_
      obtain ⟨i22, ei22⟩ : ∃ q : Nat, e20 = (q : Int) := ⟨(e20).toNat, by omega⟩
      refine wr_iv (k0 := 242) (a := e20) (f := i22) (x := h 238 i21) (nx := 85) (r1 := 0) (r2 := 0) (r3 := 0) rfl (by decide) rfl (by omega) (by omega) (by decide) g17 (gi_rp (by omega) (fun _ => rfl) (g 238 i21)) (fun h23 g23 w23 u23 => ?_)
      have F24 := F18.then rfl (FR.idx (p := 400) (q := 599) u23 (by omega))
      have F25 := u17.then rfl (FR.idx (p := 400) (q := 599) u23 (by omega))
      refine wr_iinc (i := 1) (n := 1) (v := x16) (fun e26 => [(1, vi e26), (0, .ref 236)]) (nx := 88) (r1 := 0) (r2 := 0) (r3 := 0) rfl rfl (fun _ => rfl) (fun e26 (fe26 : e26 = x16 + 1) => ?_)
      refine wi_goto (nx := 91) (r1 := 57) (r2 := 0) (r3 := 0) rfl ?_
      refine wp.lo (lo := [(0, .ref 236), (1, vi e26)]) ⟨rfl, rfl, trivial⟩ rfl ?_
      exact I17 e26 h23 ⟨g23, F24, F25, (show (0 ≤ e26 ∧ e26 ≤ 200) by omega), (fun q e => by
          by_cases e1 : (q : Int) < x16
          · exact (u23 242 _ (fn_i (by omega) fn_0)).trans (XA17 q e1)
          · have e2 : 400 + q = i22 := by omega
            have e3 : q = i21 := by omega
            exact (congrArg (h23 242) e2).trans (w23.trans ((Eq.refl _).trans (congrArg (h 238) e3).symm))), (fun q e => (u23 242 q (fn_i (by omega) fn_0)).trans (XB17 q (by omega)))⟩ (show ((200 : Int) + 1 - e26).toNat < ((200 : Int) + 1 - x16).toNat by omega)
  ·
    refine wr_gi0 (k0 := 236) (x := 3) (nx := 4) (r1 := 11) (r2 := 22) (r3 := 0) rfl rfl (by decide) rfl ⟨rfl, rfl⟩ rfl q14 ?_
    refine wi_bipush (n := 6) (nx := 6) (r1 := 0) (r2 := 0) (r3 := 0) rfl (by decide) ?_
    refine wi_icmp (cd := .ne) (nx := 9) (r1 := 55) (r2 := 0) (r3 := 0) rfl (by omega) (by omega) (fun (q15 : 3 ≠ 6) => ?_) (fun (q15 : ¬ (3 ≠ 6)) => by exfalso; omega)
    refine wi_iconst (n := 0) (nx := 56) (r1 := 0) (r2 := 0) (r3 := 0) rfl ?_
    refine wi_istore_n (i := 1) (e := 0) (lo2 := [(1, vi 0), (0, .ref 236)]) (nx := 57) (r1 := 0) (r2 := 0) (r3 := 0) rfl rfl ?_
    refine wp.lo (lo := [(0, .ref 236), (1, vi 0)]) ⟨rfl, rfl, trivial⟩ rfl ?_
    refine wl_1 (fun x16 h17 => GI h17 ∧ FR [(236, 236, some (22, 22)), (242, 242, some (0, 999)), (242, 242, some (1000, 1199))] h h17 ∧ FR [(242, 242, some (600, 799))] h h17 ∧ ((0 ≤ x16 ∧ x16 ≤ 200)) ∧ (∀ q : Nat, (q : Int) < x16 → h17 242 (600 + q) = h 238 q) ∧ (∀ q : Nat, (q < 600 ∨ (600 : Nat) + x16 ≤ (q : Int)) → h17 242 q = h 242 q)) (fun x16 h17 => ((200 : Int) + 1 - x16).toNat) (fun x16 h17 => (57, [(0, .ref 236), (1, vi x16)], [], hp_w h17 cr, b, c)) ?_ 0 h ⟨g, F0, FR.refl, (show (0 ≤ 0 ∧ 0 ≤ 200) by omega), (fun q e => absurd e (by omega)), (fun _ _ => rfl)⟩
    intro x16 h17 ⟨g17, F18, u17, f17, XA17, XB17⟩ I17
    refine wi_iload_n (i := 1) (e := x16) (nx := 58) (r1 := 0) (r2 := 0) (r3 := 0) rfl rfl ?_
    refine wi_sipush (n := 200) (nx := 61) (r1 := 0) (r2 := 0) (r3 := 0) rfl (by decide) ?_
    refine wi_icmp (cd := .ge) (nx := 64) (r1 := 91) (r2 := 0) (r3 := 0) rfl (by omega) (by omega) (fun (q19 : 200 ≤ x16) => ?_) (fun (q19 : ¬ (200 ≤ x16)) => ?_)
    ·
      refine wi_aload_n (i := 0) (x := 236) (nx := 92) (r1 := 0) (r2 := 0) (r3 := 0) rfl rfl ?_
      refine wi_dup (nx := 93) (r1 := 0) (r2 := 0) (r3 := 0) rfl rfl ?_
      refine wr_gi0 (k0 := 236) (x := 3) (nx := 96) (r1 := 11) (r2 := 22) (r3 := 0) rfl rfl (by decide) rfl ⟨rfl, rfl⟩ rfl ((u17 236 22 rfl).trans q14) ?_
      refine wi_iconst (n := 1) (nx := 97) (r1 := 0) (r2 := 0) (r3 := 0) rfl ?_
      refine wr_addL (4) (nx := 98) (r1 := 0) (r2 := 0) (r3 := 0) rfl (by decide) ?_
      refine wr_pf0 (k0 := 236) (x := 4) (bl := 0) (bh := 6) (nx := 101) (r1 := 11) (r2 := 22) (r3 := 0) rfl (by decide) rfl ⟨rfl, rfl⟩ rfl rfl g17 rfl (by omega) (fun h20 g20 w20 u20 => ?_)
      have F21 := F18.then rfl u20
      refine wi_return (nx := 102) (r1 := 0) (r2 := 0) (r3 := 0) rfl rfl ?_
      have e22 : h20 236 22 = 4 := w20
      have e23 : h 236 22 = 3 := q14
      have gs24 : GPS h20 := GPS.put (u := 3) (k := 238) xq0 (by omega) (by omega) (fun i hi => ((u20 238 i (fn_a (by omega) fn_0)).trans (u17 238 i (fn_a (by decide) fn_0)))) (fun i hi => rfl) (fun q e => by rw [show 200 * 3 + q = 600 + q by omega]; exact ((u20 242 ((600 + q)) (fn_a (by omega) fn_0)).trans (XA17 q (by omega)))) (fun q e => ((u20 242 q (fn_a (by omega) fn_0)).trans (XB17 q (by omega))))
      have gp25 : GPH h17 := GPH.put (u := 3) (k := 238) gp0 (RS.i0 (f := h 238) (by refine ⟨?_, ?_, ?_, ?_, ?_⟩ <;> omega)) (fun q e => by rw [show 200 * 3 + q = 600 + q by omega]; exact XA17 q (by omega)) (fun q e => XB17 q (by omega))
      have gp26 := GPH.fr u20 rfl gp25
      exact k h20 g20 F21 (show 1 ≤ (h20 236 22) by omega) gs24 gp26
    ·
      refine wi_aload_n (i := 0) (x := 236) (nx := 65) (r1 := 0) (r2 := 0) (r3 := 0) rfl rfl ?_
      refine wr_gr (k0 := 236) (x := 242) (nx := 68) (r1 := 11) (r2 := 17) (r3 := 0) rfl rfl (by decide) rfl ⟨rfl, rfl⟩ rfl ?_
      refine wi_sipush (n := 200) (nx := 71) (r1 := 0) (r2 := 0) (r3 := 0) rfl (by decide) ?_
      refine wi_aload_n (i := 0) (x := 236) (nx := 72) (r1 := 0) (r2 := 0) (r3 := 0) rfl rfl ?_
      refine wr_gi0 (k0 := 236) (x := 3) (nx := 75) (r1 := 11) (r2 := 22) (r3 := 0) rfl rfl (by decide) rfl ⟨rfl, rfl⟩ rfl ((u17 236 22 rfl).trans q14) ?_
      refine wr_mulL (600) (nx := 76) (r1 := 0) (r2 := 0) (r3 := 0) rfl (by decide) ?_
      refine wi_iload_n (i := 1) (e := x16) (nx := 77) (r1 := 0) (r2 := 0) (r3 := 0) rfl rfl ?_
      refine wr_add (nx := 78) (r1 := 0) (r2 := 0) (r3 := 0) rfl (fun e20 (fe20 : e20 = 600 + x16) => ?_)
      refine wi_aload_n (i := 0) (x := 236) (nx := 79) (r1 := 0) (r2 := 0) (r3 := 0) rfl rfl ?_
      refine wr_gr (k0 := 236) (x := 238) (nx := 82) (r1 := 11) (r2 := 13) (r3 := 0) rfl rfl (by decide) rfl ⟨rfl, rfl⟩ rfl ?_
      refine wi_iload_n (i := 1) (e := x16) (nx := 83) (r1 := 0) (r2 := 0) (r3 := 0) rfl rfl ?_
      obtain ⟨i21, ei21⟩ : ∃ q : Nat, x16 = (q : Int) := ⟨(x16).toNat, by omega⟩
      refine wr_ia (k0 := 238) (a := x16) (f := i21) (x := h 238 i21) (nx := 84) (r1 := 0) (r2 := 0) (r3 := 0) rfl (by decide) rfl (by omega) (by omega) (by decide) (u17 238 i21 (fn_a (by decide) fn_0)) ?_
      obtain ⟨i22, ei22⟩ : ∃ q : Nat, e20 = (q : Int) := ⟨(e20).toNat, by omega⟩
      refine wr_iv (k0 := 242) (a := e20) (f := i22) (x := h 238 i21) (nx := 85) (r1 := 0) (r2 := 0) (r3 := 0) rfl (by decide) rfl (by omega) (by omega) (by decide) g17 (gi_rp (by omega) (fun _ => rfl) (g 238 i21)) (fun h23 g23 w23 u23 => ?_)
      have F24 := F18.then rfl (FR.idx (p := 600) (q := 799) u23 (by omega))
      have F25 := u17.then rfl (FR.idx (p := 600) (q := 799) u23 (by omega))
      refine wr_iinc (i := 1) (n := 1) (v := x16) (fun e26 => [(1, vi e26), (0, .ref 236)]) (nx := 88) (r1 := 0) (r2 := 0) (r3 := 0) rfl rfl (fun _ => rfl) (fun e26 (fe26 : e26 = x16 + 1) => ?_)
      refine wi_goto (nx := 91) (r1 := 57) (r2 := 0) (r3 := 0) rfl ?_
      refine wp.lo (lo := [(0, .ref 236), (1, vi e26)]) ⟨rfl, rfl, trivial⟩ rfl ?_
      exact I17 e26 h23 ⟨g23, F24, F25, (show (0 ≤ e26 ∧ e26 ≤ 200) by omega), (fun q e => by
          by_cases e1 : (q : Int) < x16
          · exact (u23 242 _ (fn_i (by omega) fn_0)).trans (XA17 q e1)
          · have e2 : 600 + q = i22 := by omega
            have e3 : q = i21 := by omega
            exact (congrArg (h23 242) e2).trans (w23.trans ((Eq.refl _).trans (congrArg (h 238) e3).symm))), (fun q e => (u23 242 q (fn_i (by omega) fn_0)).trans (XB17 q (by omega)))⟩ (show ((200 : Int) + 1 - e26).toNat < ((200 : Int) + 1 - x16).toNat by omega)
  ·
    refine wr_gi0 (k0 := 236) (x := 4) (nx := 4) (r1 := 11) (r2 := 22) (r3 := 0) rfl rfl (by decide) rfl ⟨rfl, rfl⟩ rfl q14 ?_
    refine wi_bipush (n := 6) (nx := 6) (r1 := 0) (r2 := 0) (r3 := 0) rfl (by decide) ?_
    refine wi_icmp (cd := .ne) (nx := 9) (r1 := 55) (r2 := 0) (r3 := 0) rfl (by omega) (by omega) (fun (q15 : 4 ≠ 6) => ?_) (fun (q15 : ¬ (4 ≠ 6)) => by exfalso; omega)
    refine wi_iconst (n := 0) (nx := 56) (r1 := 0) (r2 := 0) (r3 := 0) rfl ?_
    refine wi_istore_n (i := 1) (e := 0) (lo2 := [(1, vi 0), (0, .ref 236)]) (nx := 57) (r1 := 0) (r2 := 0) (r3 := 0) rfl rfl ?_
    refine wp.lo (lo := [(0, .ref 236), (1, vi 0)]) ⟨rfl, rfl, trivial⟩ rfl ?_
    refine wl_1 (fun x16 h17 => GI h17 ∧ FR [(236, 236, some (22, 22)), (242, 242, some (0, 999)), (242, 242, some (1000, 1199))] h h17 ∧ FR [(242, 242, some (800, 999))] h h17 ∧ ((0 ≤ x16 ∧ x16 ≤ 200)) ∧ (∀ q : Nat, (q : Int) < x16 → h17 242 (800 + q) = h 238 q) ∧ (∀ q : Nat, (q < 800 ∨ (800 : Nat) + x16 ≤ (q : Int)) → h17 242 q = h 242 q)) (fun x16 h17 => ((200 : Int) + 1 - x16).toNat) (fun x16 h17 => (57, [(0, .ref 236), (1, vi x16)], [], hp_w h17 cr, b, c)) ?_ 0 h ⟨g, F0, FR.refl, (show (0 ≤ 0 ∧ 0 ≤ 200) by omega), (fun q e => absurd e (by omega)), (fun _ _ => rfl)⟩
    intro x16 h17 ⟨g17, F18, u17, f17, XA17, XB17⟩ I17
    refine wi_iload_n (i := 1) (e := x16) (nx := 58) (r1 := 0) (r2 := 0) (r3 := 0) rfl rfl ?_
    refine wi_sipush (n := 200) (nx := 61) (r1 := 0) (r2 := 0) (r3 := 0) rfl (by decide) ?_
    refine wi_icmp (cd := .ge) (nx := 64) (r1 := 91) (r2 := 0) (r3 := 0) rfl (by omega) (by omega) (fun (q19 : 200 ≤ x16) => ?_) (fun (q19 : ¬ (200 ≤ x16)) => ?_)
    ·
      refine wi_aload_n (i := 0) (x := 236) (nx := 92) (r1 := 0) (r2 := 0) (r3 := 0) rfl rfl ?_
      refine wi_dup (nx := 93) (r1 := 0) (r2 := 0) (r3 := 0) rfl rfl ?_
      refine wr_gi0 (k0 := 236) (x := 4) (nx := 96) (r1 := 11) (r2 := 22) (r3 := 0) rfl rfl (by decide) rfl ⟨rfl, rfl⟩ rfl ((u17 236 22 rfl).trans q14) ?_
      refine wi_iconst (n := 1) (nx := 97) (r1 := 0) (r2 := 0) (r3 := 0) rfl ?_
      refine wr_addL (5) (nx := 98) (r1 := 0) (r2 := 0) (r3 := 0) rfl (by decide) ?_
      refine wr_pf0 (k0 := 236) (x := 5) (bl := 0) (bh := 6) (nx := 101) (r1 := 11) (r2 := 22) (r3 := 0) rfl (by decide) rfl ⟨rfl, rfl⟩ rfl rfl g17 rfl (by omega) (fun h20 g20 w20 u20 => ?_)
      have F21 := F18.then rfl u20
      refine wi_return (nx := 102) (r1 := 0) (r2 := 0) (r3 := 0) rfl rfl ?_
      have e22 : h20 236 22 = 5 := w20
      have e23 : h 236 22 = 4 := q14
      have gs24 : GPS h20 := GPS.put (u := 4) (k := 238) xq0 (by omega) (by omega) (fun i hi => ((u20 238 i (fn_a (by omega) fn_0)).trans (u17 238 i (fn_a (by decide) fn_0)))) (fun i hi => rfl) (fun q e => by rw [show 200 * 4 + q = 800 + q by omega]; exact ((u20 242 ((800 + q)) (fn_a (by omega) fn_0)).trans (XA17 q (by omega)))) (fun q e => ((u20 242 q (fn_a (by omega) fn_0)).trans (XB17 q (by omega))))
      have gp25 : GPH h17 := GPH.put (u := 4) (k := 238) gp0 (RS.i0 (f := h 238) (by refine ⟨?_, ?_, ?_, ?_, ?_⟩ <;> omega)) (fun q e => by rw [show 200 * 4 + q = 800 + q by omega]; exact XA17 q (by omega)) (fun q e => XB17 q (by omega))
      have gp26 := GPH.fr u20 rfl gp25
      exact k h20 g20 F21 (show 1 ≤ (h20 236 22) by omega) gs24 gp26
    ·
      refine wi_aload_n (i := 0) (x := 236) (nx := 65) (r1 := 0) (r2 := 0) (r3 := 0) rfl rfl ?_
      refine wr_gr (k0 := 236) (x := 242) (nx := 68) (r1 := 11) (r2 := 17) (r3 := 0) rfl rfl (by decide) rfl ⟨rfl, rfl⟩ rfl ?_
      refine wi_sipush (n := 200) (nx := 71) (r1 := 0) (r2 := 0) (r3 := 0) rfl (by decide) ?_
      refine wi_aload_n (i := 0) (x := 236) (nx := 72) (r1 := 0) (r2 := 0) (r3 := 0) rfl rfl ?_
      refine wr_gi0 (k0 := 236) (x := 4) (nx := 75) (r1 := 11) (r2 := 22) (r3 := 0) rfl rfl (by decide) rfl ⟨rfl, rfl⟩ rfl ((u17 236 22 rfl).trans q14) ?_
      refine wr_mulL (800) (nx := 76) (r1 := 0) (r2 := 0) (r3 := 0) rfl (by decide) ?_
      refine wi_iload_n (i := 1) (e := x16) (nx := 77) (r1 := 0) (r2 := 0) (r3 := 0) rfl rfl ?_
      refine wr_add (nx := 78) (r1 := 0) (r2 := 0) (r3 := 0) rfl (fun e20 (fe20 : e20 = 800 + x16) => ?_)
      refine wi_aload_n (i := 0) (x := 236) (nx := 79) (r1 := 0) (r2 := 0) (r3 := 0) rfl rfl ?_
      refine wr_gr (k0 := 236) (x := 238) (nx := 82) (r1 := 11) (r2 := 13) (r3 := 0) rfl rfl (by decide) rfl ⟨rfl, rfl⟩ rfl ?_
      refine wi_iload_n (i := 1) (e := x16) (nx := 83) (r1 := 0) (r2 := 0) (r3 := 0) rfl rfl ?_
      obtain ⟨i21, ei21⟩ : ∃ q : Nat, x16 = (q : Int) := ⟨(x16).toNat, by omega⟩
      refine wr_ia (k0 := 238) (a := x16) (f := i21) (x := h 238 i21) (nx := 84) (r1 := 0) (r2 := 0) (r3 := 0) rfl (by decide) rfl (by omega) (by omega) (by decide) (u17 238 i21 (fn_a (by decide) fn_0)) ?_
      obtain ⟨i22, ei22⟩ : ∃ q : Nat, e20 = (q : Int) := ⟨(e20).toNat, by omega⟩
      refine wr_iv (k0 := 242) (a := e20) (f := i22) (x := h 238 i21) (nx := 85) (r1 := 0) (r2 := 0) (r3 := 0) rfl (by decide) rfl (by omega) (by omega) (by decide) g17 (gi_rp (by omega) (fun _ => rfl) (g 238 i21)) (fun h23 g23 w23 u23 => ?_)
      have F24 := F18.then rfl (FR.idx (p := 800) (q := 999) u23 (by omega))
      have F25 := u17.then rfl (FR.idx (p := 800) (q := 999) u23 (by omega))
      refine wr_iinc (i := 1) (n := 1) (v := x16) (fun e26 => [(1, vi e26), (0, .ref 236)]) (nx := 88) (r1 := 0) (r2 := 0) (r3 := 0) rfl rfl (fun _ => rfl) (fun e26 (fe26 : e26 = x16 + 1) => ?_)
      refine wi_goto (nx := 91) (r1 := 57) (r2 := 0) (r3 := 0) rfl ?_
      refine wp.lo (lo := [(0, .ref 236), (1, vi e26)]) ⟨rfl, rfl, trivial⟩ rfl ?_
      exact I17 e26 h23 ⟨g23, F24, F25, (show (0 ≤ e26 ∧ e26 ≤ 200) by omega), (fun q e => by
          by_cases e1 : (q : Int) < x16
          · exact (u23 242 _ (fn_i (by omega) fn_0)).trans (XA17 q e1)
          · have e2 : 800 + q = i22 := by omega
            have e3 : q = i21 := by omega
            exact (congrArg (h23 242) e2).trans (w23.trans ((Eq.refl _).trans (congrArg (h 238) e3).symm))), (fun q e => (u23 242 q (fn_i (by omega) fn_0)).trans (XB17 q (by omega)))⟩ (show ((200 : Int) + 1 - e26).toNat < ((200 : Int) + 1 - x16).toNat by omega)
  ·
    refine wr_gi0 (k0 := 236) (x := 5) (nx := 4) (r1 := 11) (r2 := 22) (r3 := 0) rfl rfl (by decide) rfl ⟨rfl, rfl⟩ rfl q14 ?_
    refine wi_bipush (n := 6) (nx := 6) (r1 := 0) (r2 := 0) (r3 := 0) rfl (by decide) ?_
    refine wi_icmp (cd := .ne) (nx := 9) (r1 := 55) (r2 := 0) (r3 := 0) rfl (by omega) (by omega) (fun (q15 : 5 ≠ 6) => ?_) (fun (q15 : ¬ (5 ≠ 6)) => by exfalso; omega)
    refine wi_iconst (n := 0) (nx := 56) (r1 := 0) (r2 := 0) (r3 := 0) rfl ?_
    refine wi_istore_n (i := 1) (e := 0) (lo2 := [(1, vi 0), (0, .ref 236)]) (nx := 57) (r1 := 0) (r2 := 0) (r3 := 0) rfl rfl ?_
    refine wp.lo (lo := [(0, .ref 236), (1, vi 0)]) ⟨rfl, rfl, trivial⟩ rfl ?_
    refine wl_1 (fun x16 h17 => GI h17 ∧ FR [(236, 236, some (22, 22)), (242, 242, some (0, 999)), (242, 242, some (1000, 1199))] h h17 ∧ FR [(242, 242, some (1000, 1199))] h h17 ∧ ((0 ≤ x16 ∧ x16 ≤ 200)) ∧ (∀ q : Nat, (q : Int) < x16 → h17 242 (1000 + q) = h 238 q) ∧ (∀ q : Nat, (q < 1000 ∨ (1000 : Nat) + x16 ≤ (q : Int)) → h17 242 q = h 242 q)) (fun x16 h17 => ((200 : Int) + 1 - x16).toNat) (fun x16 h17 => (57, [(0, .ref 236), (1, vi x16)], [], hp_w h17 cr, b, c)) ?_ 0 h ⟨g, F0, FR.refl, (show (0 ≤ 0 ∧ 0 ≤ 200) by omega), (fun q e => absurd e (by omega)), (fun _ _ => rfl)⟩
    intro x16 h17 ⟨g17, F18, u17, f17, XA17, XB17⟩ I17
    refine wi_iload_n (i := 1) (e := x16) (nx := 58) (r1 := 0) (r2 := 0) (r3 := 0) rfl rfl ?_
    refine wi_sipush (n := 200) (nx := 61) (r1 := 0) (r2 := 0) (r3 := 0) rfl (by decide) ?_
    refine wi_icmp (cd := .ge) (nx := 64) (r1 := 91) (r2 := 0) (r3 := 0) rfl (by omega) (by omega) (fun (q19 : 200 ≤ x16) => ?_) (fun (q19 : ¬ (200 ≤ x16)) => ?_)
    ·
      refine wi_aload_n (i := 0) (x := 236) (nx := 92) (r1 := 0) (r2 := 0) (r3 := 0) rfl rfl ?_
      refine wi_dup (nx := 93) (r1 := 0) (r2 := 0) (r3 := 0) rfl rfl ?_
      refine wr_gi0 (k0 := 236) (x := 5) (nx := 96) (r1 := 11) (r2 := 22) (r3 := 0) rfl rfl (by decide) rfl ⟨rfl, rfl⟩ rfl ((u17 236 22 rfl).trans q14) ?_
      refine wi_iconst (n := 1) (nx := 97) (r1 := 0) (r2 := 0) (r3 := 0) rfl ?_
      refine wr_addL (6) (nx := 98) (r1 := 0) (r2 := 0) (r3 := 0) rfl (by decide) ?_
      refine wr_pf0 (k0 := 236) (x := 6) (bl := 0) (bh := 6) (nx := 101) (r1 := 11) (r2 := 22) (r3 := 0) rfl (by decide) rfl ⟨rfl, rfl⟩ rfl rfl g17 rfl (by omega) (fun h20 g20 w20 u20 => ?_)
      have F21 := F18.then rfl u20
      refine wi_return (nx := 102) (r1 := 0) (r2 := 0) (r3 := 0) rfl rfl ?_
      have e22 : h20 236 22 = 6 := w20
      have e23 : h 236 22 = 5 := q14
      have gs24 : GPS h20 := GPS.put (u := 5) (k := 238) xq0 (by omega) (by omega) (fun i hi => ((u20 238 i (fn_a (by omega) fn_0)).trans (u17 238 i (fn_a (by decide) fn_0)))) (fun i hi => rfl) (fun q e => by rw [show 200 * 5 + q = 1000 + q by omega]; exact ((u20 242 ((1000 + q)) (fn_a (by omega) fn_0)).trans (XA17 q (by omega)))) (fun q e => ((u20 242 q (fn_a (by omega) fn_0)).trans (XB17 q (by omega))))
      have gp25 : GPH h17 := GPH.put (u := 5) (k := 238) gp0 (RS.i0 (f := h 238) (by refine ⟨?_, ?_, ?_, ?_, ?_⟩ <;> omega)) (fun q e => by rw [show 200 * 5 + q = 1000 + q by omega]; exact XA17 q (by omega)) (fun q e => XB17 q (by omega))
      have gp26 := GPH.fr u20 rfl gp25
      exact k h20 g20 F21 (show 1 ≤ (h20 236 22) by omega) gs24 gp26
    ·
      refine wi_aload_n (i := 0) (x := 236) (nx := 65) (r1 := 0) (r2 := 0) (r3 := 0) rfl rfl ?_
      refine wr_gr (k0 := 236) (x := 242) (nx := 68) (r1 := 11) (r2 := 17) (r3 := 0) rfl rfl (by decide) rfl ⟨rfl, rfl⟩ rfl ?_
      refine wi_sipush (n := 200) (nx := 71) (r1 := 0) (r2 := 0) (r3 := 0) rfl (by decide) ?_
      refine wi_aload_n (i := 0) (x := 236) (nx := 72) (r1 := 0) (r2 := 0) (r3 := 0) rfl rfl ?_
      refine wr_gi0 (k0 := 236) (x := 5) (nx := 75) (r1 := 11) (r2 := 22) (r3 := 0) rfl rfl (by decide) rfl ⟨rfl, rfl⟩ rfl ((u17 236 22 rfl).trans q14) ?_
      refine wr_mulL (1000) (nx := 76) (r1 := 0) (r2 := 0) (r3 := 0) rfl (by decide) ?_
      refine wi_iload_n (i := 1) (e := x16) (nx := 77) (r1 := 0) (r2 := 0) (r3 := 0) rfl rfl ?_
      refine wr_add (nx := 78) (r1 := 0) (r2 := 0) (r3 := 0) rfl (fun e20 (fe20 : e20 = 1000 + x16) => ?_)
      refine wi_aload_n (i := 0) (x := 236) (nx := 79) (r1 := 0) (r2 := 0) (r3 := 0) rfl rfl ?_
      refine wr_gr (k0 := 236) (x := 238) (nx := 82) (r1 := 11) (r2 := 13) (r3 := 0) rfl rfl (by decide) rfl ⟨rfl, rfl⟩ rfl ?_
      refine wi_iload_n (i := 1) (e := x16) (nx := 83) (r1 := 0) (r2 := 0) (r3 := 0) rfl rfl ?_
      obtain ⟨i21, ei21⟩ : ∃ q : Nat, x16 = (q : Int) := ⟨(x16).toNat, by omega⟩
      refine wr_ia (k0 := 238) (a := x16) (f := i21) (x := h 238 i21) (nx := 84) (r1 := 0) (r2 := 0) (r3 := 0) rfl (by decide) rfl (by omega) (by omega) (by decide) (u17 238 i21 (fn_a (by decide) fn_0)) ?_
      obtain ⟨i22, ei22⟩ : ∃ q : Nat, e20 = (q : Int) := ⟨(e20).toNat, by omega⟩
      refine wr_iv (k0 := 242) (a := e20) (f := i22) (x := h 238 i21) (nx := 85) (r1 := 0) (r2 := 0) (r3 := 0) rfl (by decide) rfl (by omega) (by omega) (by decide) g17 (gi_rp (by omega) (fun _ => rfl) (g 238 i21)) (fun h23 g23 w23 u23 => ?_)
      have F24 := F18.then rfl (FR.idx (p := 1000) (q := 1199) u23 (by omega))
      have F25 := u17.then rfl (FR.idx (p := 1000) (q := 1199) u23 (by omega))
      refine wr_iinc (i := 1) (n := 1) (v := x16) (fun e26 => [(1, vi e26), (0, .ref 236)]) (nx := 88) (r1 := 0) (r2 := 0) (r3 := 0) rfl rfl (fun _ => rfl) (fun e26 (fe26 : e26 = x16 + 1) => ?_)
      refine wi_goto (nx := 91) (r1 := 57) (r2 := 0) (r3 := 0) rfl ?_
      refine wp.lo (lo := [(0, .ref 236), (1, vi e26)]) ⟨rfl, rfl, trivial⟩ rfl ?_
      exact I17 e26 h23 ⟨g23, F24, F25, (show (0 ≤ e26 ∧ e26 ≤ 200) by omega), (fun q e => by
          by_cases e1 : (q : Int) < x16
          · exact (u23 242 _ (fn_i (by omega) fn_0)).trans (XA17 q e1)
          · have e2 : 1000 + q = i22 := by omega
            have e3 : q = i21 := by omega
            exact (congrArg (h23 242) e2).trans (w23.trans ((Eq.refl _).trans (congrArg (h 238) e3).symm))), (fun q e => (u23 242 q (fn_i (by omega) fn_0)).trans (XB17 q (by omega)))⟩ (show ((200 : Int) + 1 - e26).toNat < ((200 : Int) + 1 - x16).toNat by omega)
  ·
    refine wr_gi0 (k0 := 236) (x := 6) (nx := 4) (r1 := 11) (r2 := 22) (r3 := 0) rfl rfl (by decide) rfl ⟨rfl, rfl⟩ rfl q14 ?_
    refine wi_bipush (n := 6) (nx := 6) (r1 := 0) (r2 := 0) (r3 := 0) rfl (by decide) ?_
    refine wi_icmp (cd := .ne) (nx := 9) (r1 := 55) (r2 := 0) (r3 := 0) rfl (by omega) (by omega) (fun (q15 : 6 ≠ 6) => by exfalso; omega) (fun (q15 : ¬ (6 ≠ 6)) => ?_)
    refine wi_aload_n (i := 0) (x := 236) (nx := 10) (r1 := 0) (r2 := 0) (r3 := 0) rfl rfl ?_
    refine wi_dup (nx := 11) (r1 := 0) (r2 := 0) (r3 := 0) rfl rfl ?_
    refine wr_gi0 (k0 := 236) (x := 6) (nx := 14) (r1 := 11) (r2 := 22) (r3 := 0) rfl rfl (by decide) rfl ⟨rfl, rfl⟩ rfl q14 ?_
    refine wi_iconst (n := 1) (nx := 15) (r1 := 0) (r2 := 0) (r3 := 0) rfl ?_
    refine wr_subL (5) (nx := 16) (r1 := 0) (r2 := 0) (r3 := 0) rfl (by decide) ?_
    refine wr_pf0 (k0 := 236) (x := 5) (bl := 0) (bh := 6) (nx := 19) (r1 := 11) (r2 := 22) (r3 := 0) rfl (by decide) rfl ⟨rfl, rfl⟩ rfl rfl g rfl (by omega) (fun h16 g16 w16 u16 => ?_)
    have F17 := F0.then rfl u16
    refine wi_iconst (n := 0) (nx := 20) (r1 := 0) (r2 := 0) (r3 := 0) rfl ?_
    refine wi_istore_n (i := 1) (e := 0) (lo2 := [(1, vi 0), (0, .ref 236)]) (nx := 21) (r1 := 0) (r2 := 0) (r3 := 0) rfl rfl ?_
    refine wp.lo (lo := [(0, .ref 236), (1, vi 0)]) ⟨rfl, rfl, trivial⟩ rfl ?_
    refine wl_1 (fun x18 h19 => GI h19 ∧ FR [(236, 236, some (22, 22)), (242, 242, some (0, 999)), (242, 242, some (1000, 1199))] h h19 ∧ FR [(242, 242, some (0, 999))] h16 h19 ∧ ((0 ≤ x18 ∧ x18 ≤ 1000)) ∧ (∀ q : Nat, (q : Int) < x18 → h19 242 q = h16 242 (200 + q)) ∧ (∀ q : Nat, x18 ≤ (q : Int) → h19 242 q = h16 242 q)) (fun x18 h19 => ((1000 : Int) + 1 - x18).toNat) (fun x18 h19 => (21, [(0, .ref 236), (1, vi x18)], [], hp_w h19 cr, b, c)) ?_ 0 h16 ⟨g16, F17, FR.refl, (show (0 ≤ 0 ∧ 0 ≤ 1000) by omega), (fun q e => absurd e (by omega)), (fun _ _ => rfl)⟩
    intro x18 h19 ⟨g19, F20, u19, f19, XA19, XB19⟩ I19
    refine wi_iload_n (i := 1) (e := x18) (nx := 22) (r1 := 0) (r2 := 0) (r3 := 0) rfl rfl ?_
    refine wi_sipush (n := 200) (nx := 25) (r1 := 0) (r2 := 0) (r3 := 0) rfl (by decide) ?_
    refine wi_aload_n (i := 0) (x := 236) (nx := 26) (r1 := 0) (r2 := 0) (r3 := 0) rfl rfl ?_
    refine wr_gi0 (k0 := 236) (x := 5) (nx := 29) (r1 := 11) (r2 := 22) (r3 := 0) rfl rfl (by decide) rfl ⟨rfl, rfl⟩ rfl ((u19 236 22 rfl).trans w16) ?_
    refine wr_mulL (1000) (nx := 30) (r1 := 0) (r2 := 0) (r3 := 0) rfl (by decide) ?_
    refine wi_icmp (cd := .ge) (nx := 33) (r1 := 55) (r2 := 0) (r3 := 0) rfl (by omega) (by omega) (fun (q21 : 1000 ≤ x18) => ?_) (fun (q21 : ¬ (1000 ≤ x18)) => ?_)
    ·
      refine wi_iconst (n := 0) (nx := 56) (r1 := 0) (r2 := 0) (r3 := 0) rfl ?_
      refine wi_istore_n (i := 1) (e := 0) (lo2 := [(1, vi 0), (0, .ref 236)]) (nx := 57) (r1 := 0) (r2 := 0) (r3 := 0) rfl rfl ?_
      refine wp.lo (lo := [(0, .ref 236), (1, vi 0)]) ⟨rfl, rfl, trivial⟩ rfl ?_
      refine wl_1 (fun x22 h23 => GI h23 ∧ FR [(236, 236, some (22, 22)), (242, 242, some (0, 999)), (242, 242, some (1000, 1199))] h h23 ∧ FR [(242, 242, some (1000, 1199))] h19 h23 ∧ ((0 ≤ x22 ∧ x22 ≤ 200)) ∧ (∀ q : Nat, (q : Int) < x22 → h23 242 (1000 + q) = h19 238 q) ∧ (∀ q : Nat, (q < 1000 ∨ (1000 : Nat) + x22 ≤ (q : Int)) → h23 242 q = h19 242 q)) (fun x22 h23 => ((200 : Int) + 1 - x22).toNat) (fun x22 h23 => (57, [(0, .ref 236), (1, vi x22)], [], hp_w h23 cr, b, c)) ?_ 0 h19 ⟨g19, F20, FR.refl, (show (0 ≤ 0 ∧ 0 ≤ 200) by omega), (fun q e => absurd e (by omega)), (fun _ _ => rfl)⟩
      intro x22 h23 ⟨g23, F24, u23, f23, XA23, XB23⟩ I23
      refine wi_iload_n (i := 1) (e := x22) (nx := 58) (r1 := 0) (r2 := 0) (r3 := 0) rfl rfl ?_
      refine wi_sipush (n := 200) (nx := 61) (r1 := 0) (r2 := 0) (r3 := 0) rfl (by decide) ?_
      refine wi_icmp (cd := .ge) (nx := 64) (r1 := 91) (r2 := 0) (r3 := 0) rfl (by omega) (by omega) (fun (q25 : 200 ≤ x22) => ?_) (fun (q25 : ¬ (200 ≤ x22)) => ?_)
      ·
        refine wi_aload_n (i := 0) (x := 236) (nx := 92) (r1 := 0) (r2 := 0) (r3 := 0) rfl rfl ?_
        refine wi_dup (nx := 93) (r1 := 0) (r2 := 0) (r3 := 0) rfl rfl ?_
        refine wr_gi0 (k0 := 236) (x := 5) (nx := 96) (r1 := 11) (r2 := 22) (r3 := 0) rfl rfl (by decide) rfl ⟨rfl, rfl⟩ rfl ((u23 236 22 rfl).trans ((u19 236 22 rfl).trans w16)) ?_
        refine wi_iconst (n := 1) (nx := 97) (r1 := 0) (r2 := 0) (r3 := 0) rfl ?_
        refine wr_addL (6) (nx := 98) (r1 := 0) (r2 := 0) (r3 := 0) rfl (by decide) ?_
        refine wr_pf0 (k0 := 236) (x := 6) (bl := 0) (bh := 6) (nx := 101) (r1 := 11) (r2 := 22) (r3 := 0) rfl (by decide) rfl ⟨rfl, rfl⟩ rfl rfl g23 rfl (by omega) (fun h26 g26 w26 u26 => ?_)
        have F27 := F24.then rfl u26
        refine wi_return (nx := 102) (r1 := 0) (r2 := 0) (r3 := 0) rfl rfl ?_
        have e28 : h26 236 22 = 6 := w26
        have e29 : h 236 22 = 6 := q14
        have e30 : h19 236 22 = 5 := ((u19 236 22 rfl).trans w16)
        have gs31 : GPS h19 := GPS.shift xq0 (by omega) (by omega) (fun i hi => ((u19 238 i (fn_a (by decide) fn_0)).trans (u16 238 i (fn_a (by omega) fn_0)))) (fun q e => (((XA19 q (by omega))).trans (u16 242 ((200 + q)) (fn_a (by omega) fn_0))))
        have gs32 : GPS h26 := GPS.put (u := 5) (k := 238) gs31 (by omega) (by omega) (fun i hi => ((u26 238 i (fn_a (by omega) fn_0)).trans (u23 238 i (fn_a (by decide) fn_0)))) (fun i hi => rfl) (fun q e => by rw [show 200 * 5 + q = 1000 + q by omega]; exact ((u26 242 ((1000 + q)) (fn_a (by omega) fn_0)).trans (XA23 q (by omega)))) (fun q e => ((u26 242 q (fn_a (by omega) fn_0)).trans (XB23 q (by omega))))
        have gp33 := GPH.fr u16 rfl gp0
        have gp34 : GPH h19 := GPH.shift gp33 (fun q e => XA19 q (by omega)) (fun q e => XB19 q (by omega))
        have e35 : h19 238 98 = h 238 98 := ((u19 238 98 rfl).trans (u16 238 98 rfl))
        have e36 : h19 238 99 = h 238 99 := ((u19 238 99 rfl).trans (u16 238 99 rfl))
        have e37 : h19 238 100 = h 238 100 := ((u19 238 100 rfl).trans (u16 238 100 rfl))
        have e38 : h19 238 101 = h 238 101 := ((u19 238 101 rfl).trans (u16 238 101 rfl))
        have e39 : h19 238 102 = h 238 102 := ((u19 238 102 rfl).trans (u16 238 102 rfl))
        have e40 : h19 238 106 = h 238 106 := ((u19 238 106 rfl).trans (u16 238 106 rfl))
        have e41 : h19 238 73 = h 238 73 := ((u19 238 73 rfl).trans (u16 238 73 rfl))
        have e42 : h19 238 2 = h 238 2 := ((u19 238 2 rfl).trans (u16 238 2 rfl))
        have e43 : h19 238 119 = h 238 119 := ((u19 238 119 rfl).trans (u16 238 119 rfl))
        have e44 : h19 238 67 = h 238 67 := ((u19 238 67 rfl).trans (u16 238 67 rfl))
        have e45 : h19 238 69 = h 238 69 := ((u19 238 69 rfl).trans (u16 238 69 rfl))
        have e46 : h19 238 5 = h 238 5 := ((u19 238 5 rfl).trans (u16 238 5 rfl))
        have gp47 : GPH h23 := GPH.put (u := 5) (k := 238) gp34 (RS.i0 (f := h19 238) (by refine ⟨?_, ?_, ?_, ?_, ?_⟩ <;> omega)) (fun q e => by rw [show 200 * 5 + q = 1000 + q by omega]; exact XA23 q (by omega)) (fun q e => XB23 q (by omega))
        have gp48 := GPH.fr u26 rfl gp47
        exact k h26 g26 F27 (show 1 ≤ (h26 236 22) by omega) gs32 gp48
      ·
        refine wi_aload_n (i := 0) (x := 236) (nx := 65) (r1 := 0) (r2 := 0) (r3 := 0) rfl rfl ?_
        refine wr_gr (k0 := 236) (x := 242) (nx := 68) (r1 := 11) (r2 := 17) (r3 := 0) rfl rfl (by decide) rfl ⟨rfl, rfl⟩ rfl ?_
        refine wi_sipush (n := 200) (nx := 71) (r1 := 0) (r2 := 0) (r3 := 0) rfl (by decide) ?_
        refine wi_aload_n (i := 0) (x := 236) (nx := 72) (r1 := 0) (r2 := 0) (r3 := 0) rfl rfl ?_
        refine wr_gi0 (k0 := 236) (x := 5) (nx := 75) (r1 := 11) (r2 := 22) (r3 := 0) rfl rfl (by decide) rfl ⟨rfl, rfl⟩ rfl ((u23 236 22 rfl).trans ((u19 236 22 rfl).trans w16)) ?_
        refine wr_mulL (1000) (nx := 76) (r1 := 0) (r2 := 0) (r3 := 0) rfl (by decide) ?_
        refine wi_iload_n (i := 1) (e := x22) (nx := 77) (r1 := 0) (r2 := 0) (r3 := 0) rfl rfl ?_
        refine wr_add (nx := 78) (r1 := 0) (r2 := 0) (r3 := 0) rfl (fun e26 (fe26 : e26 = 1000 + x22) => ?_)
        refine wi_aload_n (i := 0) (x := 236) (nx := 79) (r1 := 0) (r2 := 0) (r3 := 0) rfl rfl ?_
        refine wr_gr (k0 := 236) (x := 238) (nx := 82) (r1 := 11) (r2 := 13) (r3 := 0) rfl rfl (by decide) rfl ⟨rfl, rfl⟩ rfl ?_
        refine wi_iload_n (i := 1) (e := x22) (nx := 83) (r1 := 0) (r2 := 0) (r3 := 0) rfl rfl ?_
        obtain ⟨i27, ei27⟩ : ∃ q : Nat, x22 = (q : Int) := ⟨(x22).toNat, by omega⟩
        refine wr_ia (k0 := 238) (a := x22) (f := i27) (x := h 238 i27) (nx := 84) (r1 := 0) (r2 := 0) (r3 := 0) rfl (by decide) rfl (by omega) (by omega) (by decide) ((u23 238 i27 (fn_a (by decide) fn_0)).trans ((u19 238 i27 (fn_a (by decide) fn_0)).trans (u16 238 i27 (fn_a (by omega) fn_0)))) ?_
        obtain ⟨i28, ei28⟩ : ∃ q : Nat, e26 = (q : Int) := ⟨(e26).toNat, by omega⟩
        refine wr_iv (k0 := 242) (a := e26) (f := i28) (x := h 238 i27) (nx := 85) (r1 := 0) (r2 := 0) (r3 := 0) rfl (by decide) rfl (by omega) (by omega) (by decide) g23 (gi_rp (by omega) (fun _ => rfl) (g 238 i27)) (fun h29 g29 w29 u29 => ?_)
        have F30 := F24.then rfl (FR.idx (p := 1000) (q := 1199) u29 (by omega))
        have F31 := u23.then rfl (FR.idx (p := 1000) (q := 1199) u29 (by omega))
        refine wr_iinc (i := 1) (n := 1) (v := x22) (fun e32 => [(1, vi e32), (0, .ref 236)]) (nx := 88) (r1 := 0) (r2 := 0) (r3 := 0) rfl rfl (fun _ => rfl) (fun e32 (fe32 : e32 = x22 + 1) => ?_)
        refine wi_goto (nx := 91) (r1 := 57) (r2 := 0) (r3 := 0) rfl ?_
        refine wp.lo (lo := [(0, .ref 236), (1, vi e32)]) ⟨rfl, rfl, trivial⟩ rfl ?_
        exact I23 e32 h29 ⟨g29, F30, F31, (show (0 ≤ e32 ∧ e32 ≤ 200) by omega), (fun q e => by
            by_cases e1 : (q : Int) < x22
            · exact (u29 242 _ (fn_i (by omega) fn_0)).trans (XA23 q e1)
            · have e2 : 1000 + q = i28 := by omega
              have e3 : q = i27 := by omega
              exact (congrArg (h29 242) e2).trans (w29.trans ((((u19 238 i27 (fn_a (by decide) fn_0)).trans (u16 238 i27 (fn_a (by omega) fn_0))).symm).trans (congrArg (h19 238) e3).symm))), (fun q e => (u29 242 q (fn_i (by omega) fn_0)).trans (XB23 q (by omega)))⟩ (show ((200 : Int) + 1 - e32).toNat < ((200 : Int) + 1 - x22).toNat by omega)
    ·
      refine wi_aload_n (i := 0) (x := 236) (nx := 34) (r1 := 0) (r2 := 0) (r3 := 0) rfl rfl ?_
      refine wr_gr (k0 := 236) (x := 242) (nx := 37) (r1 := 11) (r2 := 17) (r3 := 0) rfl rfl (by decide) rfl ⟨rfl, rfl⟩ rfl ?_
      refine wi_iload_n (i := 1) (e := x18) (nx := 38) (r1 := 0) (r2 := 0) (r3 := 0) rfl rfl ?_
      refine wi_aload_n (i := 0) (x := 236) (nx := 39) (r1 := 0) (r2 := 0) (r3 := 0) rfl rfl ?_
      refine wr_gr (k0 := 236) (x := 242) (nx := 42) (r1 := 11) (r2 := 17) (r3 := 0) rfl rfl (by decide) rfl ⟨rfl, rfl⟩ rfl ?_
      refine wi_iload_n (i := 1) (e := x18) (nx := 43) (r1 := 0) (r2 := 0) (r3 := 0) rfl rfl ?_
      refine wi_sipush (n := 200) (nx := 46) (r1 := 0) (r2 := 0) (r3 := 0) rfl (by decide) ?_
      refine wr_add (nx := 47) (r1 := 0) (r2 := 0) (r3 := 0) rfl (fun e22 (fe22 : e22 = x18 + 200) => ?_)
      obtain ⟨i23, ei23⟩ : ∃ q : Nat, e22 = (q : Int) := ⟨(e22).toNat, by omega⟩
      refine wr_ia (k0 := 242) (a := e22) (f := i23) (x := h19 242 i23) (nx := 48) (r1 := 0) (r2 := 0) (r3 := 0) rfl (by decide) rfl (by omega) (by omega) (by decide) rfl ?_
      obtain ⟨i24, ei24⟩ : ∃ q : Nat, x18 = (q : Int) := ⟨(x18).toNat, by omega⟩
      refine wr_iv (k0 := 242) (a := x18) (f := i24) (x := h19 242 i23) (nx := 49) (r1 := 0) (r2 := 0) (r3 := 0) rfl (by decide) rfl (by omega) (by omega) (by decide) g19 (gi_pp (by omega) (g19 242 i23)) (fun h25 g25 w25 u25 => ?_)
      have F26 := F20.then rfl (FR.idx (p := 0) (q := 999) u25 (by omega))
      have F27 := u19.then rfl (FR.idx (p := 0) (q := 999) u25 (by omega))
      refine wr_iinc (i := 1) (n := 1) (v := x18) (fun e28 => [(1, vi e28), (0, .ref 236)]) (nx := 52) (r1 := 0) (r2 := 0) (r3 := 0) rfl rfl (fun _ => rfl) (fun e28 (fe28 : e28 = x18 + 1) => ?_)
      refine wi_goto (nx := 55) (r1 := 21) (r2 := 0) (r3 := 0) rfl ?_
      refine wp.lo (lo := [(0, .ref 236), (1, vi e28)]) ⟨rfl, rfl, trivial⟩ rfl ?_
      exact I19 e28 h25 ⟨g25, F26, F27, (show (0 ≤ e28 ∧ e28 ≤ 1000) by omega), (fun q e => by
          by_cases e1 : (q : Int) < x18
          · exact (u25 242 _ (fn_i (by omega) fn_0)).trans (XA19 q e1)
          · have e2 : q = i24 := by omega
            have e3 : 200 + q = i23 := by omega
            exact (congrArg (h25 242) e2).trans (w25.trans ((XB19 i23 (by omega)).trans (congrArg (h16 242) e3).symm))), (fun q e => (u25 242 q (fn_i (by omega) fn_0)).trans (XB19 q (by omega)))⟩ (show ((1000 : Int) + 1 - e28).toNat < ((1000 : Int) + 1 - x18).toNat by omega)
-- method 286: Model.comesBack(I)I
set_option maxRecDepth 100000 in
set_option maxHeartbeats 100000000 in
theorem ct_286_236_L0 {L : Nat} {xs : Nat → Int32} {d b c : Nat} {h : hp} {cr : Nat → Nat → Option Nat} {Q : hp_Q} (hcr : CR cr)  (g : GI h)   (pp0 : h 238 98 + h 238 99 + h 238 100 + h 238 101 + h 238 102 + h 238 106 = h 238 73) (pp1 : h 238 73 ≤ h 238 2) (pp2 : h 238 119 ≤ h 238 67) (pp3 : h 238 69 ≤ h 238 5) (pp4 : h 238 2 ≤ 12 * h 238 5) (pp5 : 1 ≤ h 238 102) (pp6 : h 238 98 ≤ 5) (k : ∀ (h2 : hp) (z0 : Int) , GI h2 → FR [(238, 238, some (74, 79)), (238, 238, some (98, 98)), (238, 238, some (102, 102)), (238, 238, some (103, 104))] h h2 → (0 ≤ z0 ∧ z0 ≤ 11) → (h2 238 98 + h2 238 99 + h2 238 100 + h2 238 101 + h2 238 102 + h2 238 106 = h2 238 73) → (h2 238 73 ≤ h2 238 2) → (h2 238 119 ≤ h2 238 67) → (h2 238 69 ≤ h2 238 5) → (h2 238 2 ≤ 12 * h2 238 5) → Q (.inl (some (vi z0))) (hp_w h2 cr) b c) : wp (md_xa (L, xs)) (d + 1) 286 (0, [(0, .ref 236), (1, vi 0)], [], hp_w h cr, b, c) Q := by
  have F0 : FR [(238, 238, some (74, 79)), (238, 238, some (98, 98)), (238, 238, some (102, 102)), (238, 238, some (103, 104))] h h := FR.refl
  have b1 := gi_b (lo := 0) (hi := 6) g 238 98 rfl
  have b2 := gi_b (lo := 0) (hi := 6) g 238 99 rfl
  have b3 := gi_b (lo := 0) (hi := 6) g 238 100 rfl
  have b4 := gi_b (lo := 0) (hi := 6) g 238 101 rfl
  have b5 := gi_b (lo := 0) (hi := 3) g 238 102 rfl
  have b6 := gi_b (lo := 0) (hi := 12) g 238 106 rfl
  have b7 := gi_b (lo := 0) (hi := 12) g 238 73 rfl
  have b8 := gi_b (lo := 0) (hi := 12) g 238 2 rfl
  have b9 := gi_b (lo := 0) (hi := 9999) g 238 119 rfl
  have b10 := gi_b (lo := 0) (hi := 9999) g 238 67 rfl
  have b11 := gi_b (lo := 0) (hi := 9) g 238 69 rfl
  have b12 := gi_b (lo := 0) (hi := 9) g 238 5 rfl
  refine wi_aload_n (i := 0) (x := 236) (nx := 1) (r1 := 0) (r2 := 0) (r3 := 0) rfl rfl ?_
  refine wr_gr (k0 := 236) (x := 238) (nx := 4) (r1 := 11) (r2 := 13) (r3 := 0) rfl rfl (by decide) rfl ⟨rfl, rfl⟩ rfl ?_
  refine wi_bipush (n := 103) (nx := 6) (r1 := 0) (r2 := 0) (r3 := 0) rfl (by decide) ?_
  have b13 := gi_b (lo := 0) (hi := 11) g 238 103 rfl
  refine wr_ia (k0 := 238) (a := 103) (f := 103) (x := h 238 103) (nx := 7) (r1 := 0) (r2 := 0) (r3 := 0) rfl (by decide) rfl (by omega) (by omega) (by decide) rfl ?_
  refine wi_istore_n (i := 2) (e := h 238 103) (lo2 := [(2, vi (h 238 103)), (0, .ref 236), (1, vi 0)]) (nx := 8) (r1 := 0) (r2 := 0) (r3 := 0) rfl rfl ?_
  refine wi_aload_n (i := 0) (x := 236) (nx := 9) (r1 := 0) (r2 := 0) (r3 := 0) rfl rfl ?_
  refine wr_gr (k0 := 236) (x := 238) (nx := 12) (r1 := 11) (r2 := 13) (r3 := 0) rfl rfl (by decide) rfl ⟨rfl, rfl⟩ rfl ?_
  refine wi_bipush (n := 102) (nx := 14) (r1 := 0) (r2 := 0) (r3 := 0) rfl (by decide) ?_
  refine wi_dup2 (nx := 15) (r1 := 0) (r2 := 0) (r3 := 0) rfl rfl rfl ?_
  refine wr_ia (k0 := 238) (a := 102) (f := 102) (x := h 238 102) (nx := 16) (r1 := 0) (r2 := 0) (r3 := 0) rfl (by decide) rfl (by omega) (by omega) (by decide) rfl ?_
  refine wi_iconst (n := 1) (nx := 17) (r1 := 0) (r2 := 0) (r3 := 0) rfl ?_
  refine wr_sub (nx := 18) (r1 := 0) (r2 := 0) (r3 := 0) rfl (fun e14 (fe14 : e14 = (h 238 102) - 1) => ?_)
  refine wr_is (k0 := 238) (a := 102) (f := 102) (x := e14) (bl := 0) (bh := 3) (nx := 19) (r1 := 0) (r2 := 0) (r3 := 0) rfl (by decide) rfl (by omega) (by omega) (by decide) g rfl (by omega) (fun h15 g15 w15 u15 => ?_)
  have F16 := F0.then rfl u15
  refine wi_iconst (n := 0) (nx := 20) (r1 := 0) (r2 := 0) (r3 := 0) rfl ?_
  refine wi_istore_n (i := 3) (e := 0) (lo2 := [(3, vi 0), (2, vi (h 238 103)), (0, .ref 236), (1, vi 0)]) (nx := 21) (r1 := 0) (r2 := 0) (r3 := 0) rfl rfl ?_
  refine wp.lo (lo := [(0, .ref 236), (1, vi 0), (2, vi (h 238 103)), (3, vi 0)]) ⟨rfl, rfl, rfl, rfl, trivial⟩ rfl ?_
  refine wl_1 (fun x17 h18 => GI h18 ∧ FR [(238, 238, some (74, 79)), (238, 238, some (98, 98)), (238, 238, some (102, 102)), (238, 238, some (103, 104))] h h18 ∧ FR [(238, 238, some (103, 104))] h15 h18 ∧ ((0 ≤ x17 ∧ x17 ≤ 2))) (fun x17 h18 => ((2 : Int) + 1 - x17).toNat) (fun x17 h18 => (21, [(0, .ref 236), (1, vi 0), (2, vi (h 238 103)), (3, vi x17)], [], hp_w h18 cr, b, c)) ?_ 0 h15 ⟨g15, F16, FR.refl, (show (0 ≤ 0 ∧ 0 ≤ 2) by omega)⟩
  intro x17 h18 ⟨g18, F19, u18, f18⟩ I18
  refine wi_iload_n (i := 3) (e := x17) (nx := 22) (r1 := 0) (r2 := 0) (r3 := 0) rfl rfl ?_
  refine wi_aload_n (i := 0) (x := 236) (nx := 23) (r1 := 0) (r2 := 0) (r3 := 0) rfl rfl ?_
  refine wr_gr (k0 := 236) (x := 238) (nx := 26) (r1 := 11) (r2 := 13) (r3 := 0) rfl rfl (by decide) rfl ⟨rfl, rfl⟩ rfl ?_
  refine wi_bipush (n := 102) (nx := 28) (r1 := 0) (r2 := 0) (r3 := 0) rfl (by decide) ?_
  refine wr_ia (k0 := 238) (a := 102) (f := 102) (x := e14) (nx := 29) (r1 := 0) (r2 := 0) (r3 := 0) rfl (by decide) rfl (by omega) (by omega) (by decide) ((u18 238 102 rfl).trans w15) ?_
  refine wi_icmp (cd := .ge) (nx := 32) (r1 := 58) (r2 := 0) (r3 := 0) rfl (by omega) (by omega) (fun (q20 : e14 ≤ x17) => ?_) (fun (q20 : ¬ (e14 ≤ x17)) => ?_)
  ·
    refine wi_aload_n (i := 0) (x := 236) (nx := 59) (r1 := 0) (r2 := 0) (r3 := 0) rfl rfl ?_
    refine wi_iload_n (i := 1) (e := 0) (nx := 60) (r1 := 0) (r2 := 0) (r3 := 0) rfl rfl ?_
    refine wi_iload_n (i := 2) (e := h 238 103) (nx := 61) (r1 := 0) (r2 := 0) (r3 := 0) rfl rfl ?_
    refine wr_V (k0 := 236) (rest := []) (as := [.ref 236, vi 0, vi (h 238 103)]) (nx := 64) (r1 := 280) (r2 := 2) (r3 := 11) rfl rfl rfl (of_decide_eq_true rfl) rfl rfl (by decide) rfl rfl (of_decide_eq_true rfl) (of_decide_eq_true rfl) ?_
    refine wi_aload_n (i := 0) (x := 236) (nx := 1) (r1 := 0) (r2 := 0) (r3 := 0) rfl rfl ?_
    refine wr_gr (k0 := 236) (x := 238) (nx := 4) (r1 := 11) (r2 := 13) (r3 := 0) rfl rfl (by decide) rfl ⟨rfl, rfl⟩ rfl ?_
    refine wi_bipush (n := 74) (nx := 6) (r1 := 0) (r2 := 0) (r3 := 0) rfl (by decide) ?_
    refine wi_bipush (n := 6) (nx := 8) (r1 := 0) (r2 := 0) (r3 := 0) rfl (by decide) ?_
    refine wi_iload_n (i := 1) (e := 0) (nx := 9) (r1 := 0) (r2 := 0) (r3 := 0) rfl rfl ?_
    refine wr_mulL (0) (nx := 10) (r1 := 0) (r2 := 0) (r3 := 0) rfl (by decide) ?_
    refine wr_addL (74) (nx := 11) (r1 := 0) (r2 := 0) (r3 := 0) rfl (by decide) ?_
    refine wi_aload_n (i := 0) (x := 236) (nx := 12) (r1 := 0) (r2 := 0) (r3 := 0) rfl rfl ?_
    refine wr_gr (k0 := 236) (x := 238) (nx := 15) (r1 := 11) (r2 := 13) (r3 := 0) rfl rfl (by decide) rfl ⟨rfl, rfl⟩ rfl ?_
    refine wi_bipush (n := 98) (nx := 17) (r1 := 0) (r2 := 0) (r3 := 0) rfl (by decide) ?_
    refine wi_iload_n (i := 1) (e := 0) (nx := 18) (r1 := 0) (r2 := 0) (r3 := 0) rfl rfl ?_
    refine wr_addL (98) (nx := 19) (r1 := 0) (r2 := 0) (r3 := 0) rfl (by decide) ?_
    refine wr_ia (k0 := 238) (a := 98) (f := 98) (x := h 238 98) (nx := 20) (r1 := 0) (r2 := 0) (r3 := 0) rfl (by decide) rfl (by omega) (by omega) (by decide) ((u18 238 98 rfl).trans (u15 238 98 rfl)) ?_
    refine wr_add (nx := 21) (r1 := 0) (r2 := 0) (r3 := 0) rfl (fun e21 (fe21 : e21 = 74 + (h 238 98)) => ?_)
    refine wi_iload_n (i := 2) (e := h 238 103) (nx := 22) (r1 := 0) (r2 := 0) (r3 := 0) rfl rfl ?_
    obtain ⟨i22, ei22⟩ : ∃ q : Nat, e21 = (q : Int) := ⟨(e21).toNat, by omega⟩
    refine wr_is (k0 := 238) (a := e21) (f := i22) (x := h 238 103) (bl := 0) (bh := 11) (nx := 23) (r1 := 0) (r2 := 0) (r3 := 0) rfl (by decide) rfl (by omega) (by omega) (by decide) g18 (gi_rg 74 6 (fun _ => rfl) (by decide +kernel) (by omega)) (by omega) (fun h23 g23 w23 u23 => ?_)
    have F24 := F19.then rfl (FR.idx (p := 74) (q := 79) u23 (by omega))
    refine wi_aload_n (i := 0) (x := 236) (nx := 24) (r1 := 0) (r2 := 0) (r3 := 0) rfl rfl ?_
    refine wr_gr (k0 := 236) (x := 238) (nx := 27) (r1 := 11) (r2 := 13) (r3 := 0) rfl rfl (by decide) rfl ⟨rfl, rfl⟩ rfl ?_
    refine wi_bipush (n := 98) (nx := 29) (r1 := 0) (r2 := 0) (r3 := 0) rfl (by decide) ?_
    refine wi_iload_n (i := 1) (e := 0) (nx := 30) (r1 := 0) (r2 := 0) (r3 := 0) rfl rfl ?_
    refine wr_addL (98) (nx := 31) (r1 := 0) (r2 := 0) (r3 := 0) rfl (by decide) ?_
    refine wi_dup2 (nx := 32) (r1 := 0) (r2 := 0) (r3 := 0) rfl rfl rfl ?_
    refine wr_ia (k0 := 238) (a := 98) (f := 98) (x := h 238 98) (nx := 33) (r1 := 0) (r2 := 0) (r3 := 0) rfl (by decide) rfl (by omega) (by omega) (by decide) ((u23 238 98 (fn_i (by omega) fn_0)).trans ((u18 238 98 rfl).trans (u15 238 98 rfl))) ?_
    refine wi_iconst (n := 1) (nx := 34) (r1 := 0) (r2 := 0) (r3 := 0) rfl ?_
    refine wr_add (nx := 35) (r1 := 0) (r2 := 0) (r3 := 0) rfl (fun e25 (fe25 : e25 = (h 238 98) + 1) => ?_)
    refine wr_is (k0 := 238) (a := 98) (f := 98) (x := e25) (bl := 0) (bh := 6) (nx := 36) (r1 := 0) (r2 := 0) (r3 := 0) rfl (by decide) rfl (by omega) (by omega) (by decide) g23 rfl (by omega) (fun h26 g26 w26 u26 => ?_)
    have F27 := F24.then rfl u26
    refine wi_return (nx := 37) (r1 := 0) (r2 := 0) (r3 := 0) rfl rfl ?_
    refine wk_n ?_
    refine wi_iload_n (i := 2) (e := h 238 103) (nx := 65) (r1 := 0) (r2 := 0) (r3 := 0) rfl rfl ?_
    refine wi_ireturn (nx := 66) (r1 := 0) (r2 := 0) (r3 := 0) rfl rfl ?_
    have e28 : h26 238 98 = e25 := w26
    have e29 : h26 238 99 = h 238 99 := ((u26 238 99 rfl).trans ((u23 238 99 (fn_i (by omega) fn_0)).trans ((u18 238 99 rfl).trans (u15 238 99 rfl))))
    have e30 : h26 238 100 = h 238 100 := ((u26 238 100 rfl).trans ((u23 238 100 (fn_i (by omega) fn_0)).trans ((u18 238 100 rfl).trans (u15 238 100 rfl))))
    have e31 : h26 238 101 = h 238 101 := ((u26 238 101 rfl).trans ((u23 238 101 (fn_i (by omega) fn_0)).trans ((u18 238 101 rfl).trans (u15 238 101 rfl))))
    have e32 : h26 238 102 = e14 := ((u26 238 102 rfl).trans ((u23 238 102 (fn_i (by omega) fn_0)).trans ((u18 238 102 rfl).trans w15)))
    have e33 : h26 238 106 = h 238 106 := ((u26 238 106 rfl).trans ((u23 238 106 (fn_i (by omega) fn_0)).trans ((u18 238 106 rfl).trans (u15 238 106 rfl))))
    have e34 : h26 238 73 = h 238 73 := ((u26 238 73 rfl).trans ((u23 238 73 (fn_i (by omega) fn_0)).trans ((u18 238 73 rfl).trans (u15 238 73 rfl))))
    have e35 : h26 238 2 = h 238 2 := ((u26 238 2 rfl).trans ((u23 238 2 (fn_i (by omega) fn_0)).trans ((u18 238 2 rfl).trans (u15 238 2 rfl))))
    have e36 : h26 238 119 = h 238 119 := ((u26 238 119 rfl).trans ((u23 238 119 (fn_i (by omega) fn_0)).trans ((u18 238 119 rfl).trans (u15 238 119 rfl))))
    have e37 : h26 238 67 = h 238 67 := ((u26 238 67 rfl).trans ((u23 238 67 (fn_i (by omega) fn_0)).trans ((u18 238 67 rfl).trans (u15 238 67 rfl))))
    have e38 : h26 238 69 = h 238 69 := ((u26 238 69 rfl).trans ((u23 238 69 (fn_i (by omega) fn_0)).trans ((u18 238 69 rfl).trans (u15 238 69 rfl))))
    have e39 : h26 238 5 = h 238 5 := ((u26 238 5 rfl).trans ((u23 238 5 (fn_i (by omega) fn_0)).trans ((u18 238 5 rfl).trans (u15 238 5 rfl))))
    exact k h26 (h 238 103) g26 F27 (by omega) (show (h26 238 98) + (h26 238 99) + (h26 238 100) + (h26 238 101) + (h26 238 102) + (h26 238 106) = (h26 238 73) by omega) (show (h26 238 73) ≤ (h26 238 2) by omega) (show (h26 238 119) ≤ (h26 238 67) by omega) (show (h26 238 69) ≤ (h26 238 5) by omega) (show (h26 238 2) ≤ 12 * (h26 238 5) by omega)
  ·
    refine wi_aload_n (i := 0) (x := 236) (nx := 33) (r1 := 0) (r2 := 0) (r3 := 0) rfl rfl ?_
    refine wr_gr (k0 := 236) (x := 238) (nx := 36) (r1 := 11) (r2 := 13) (r3 := 0) rfl rfl (by decide) rfl ⟨rfl, rfl⟩ rfl ?_
    refine wi_bipush (n := 103) (nx := 38) (r1 := 0) (r2 := 0) (r3 := 0) rfl (by decide) ?_
    refine wi_iload_n (i := 3) (e := x17) (nx := 39) (r1 := 0) (r2 := 0) (r3 := 0) rfl rfl ?_
    refine wr_add (nx := 40) (r1 := 0) (r2 := 0) (r3 := 0) rfl (fun e21 (fe21 : e21 = 103 + x17) => ?_)
    refine wi_aload_n (i := 0) (x := 236) (nx := 41) (r1 := 0) (r2 := 0) (r3 := 0) rfl rfl ?_
    refine wr_gr (k0 := 236) (x := 238) (nx := 44) (r1 := 11) (r2 := 13) (r3 := 0) rfl rfl (by decide) rfl ⟨rfl, rfl⟩ rfl ?_
    refine wi_bipush (n := 103) (nx := 46) (r1 := 0) (r2 := 0) (r3 := 0) rfl (by decide) ?_
    refine wi_iload_n (i := 3) (e := x17) (nx := 47) (r1 := 0) (r2 := 0) (r3 := 0) rfl rfl ?_
    refine wr_add (nx := 48) (r1 := 0) (r2 := 0) (r3 := 0) rfl (fun e22 (fe22 : e22 = 103 + x17) => ?_)
    refine wi_iconst (n := 1) (nx := 49) (r1 := 0) (r2 := 0) (r3 := 0) rfl ?_
    refine wr_add (nx := 50) (r1 := 0) (r2 := 0) (r3 := 0) rfl (fun e23 (fe23 : e23 = e22 + 1) => ?_)
    obtain ⟨i24, ei24⟩ : ∃ q : Nat, e23 = (q : Int) := ⟨(e23).toNat, by omega⟩
    have b25 := gi_b (lo := 0) (hi := 11) g18 238 i24 (gi_rg 104 2 (fun _ => rfl) (by decide +kernel) (by omega))
    refine wr_ia (k0 := 238) (a := e23) (f := i24) (x := h18 238 i24) (nx := 51) (r1 := 0) (r2 := 0) (r3 := 0) rfl (by decide) rfl (by omega) (by omega) (by decide) rfl ?_
    obtain ⟨i26, ei26⟩ : ∃ q : Nat, e21 = (q : Int) := ⟨(e21).toNat, by omega⟩
    refine wr_is (k0 := 238) (a := e21) (f := i26) (x := h18 238 i24) (bl := 0) (bh := 11) (nx := 52) (r1 := 0) (r2 := 0) (r3 := 0) rfl (by decide) rfl (by omega) (by omega) (by decide) g18 (gi_rg 103 2 (fun _ => rfl) (by decide +kernel) (by omega)) (by omega) (fun h27 g27 w27 u27 => ?_)
    have F28 := F19.then rfl (FR.idx (p := 103) (q := 104) u27 (by omega))
    have F29 := u18.then rfl (FR.idx (p := 103) (q := 104) u27 (by omega))
    refine wr_iinc (i := 3) (n := 1) (v := x17) (fun e30 => [(3, vi e30), (0, .ref 236), (1, vi 0), (2, vi (h 238 103))]) (nx := 55) (r1 := 0) (r2 := 0) (r3 := 0) rfl rfl (fun _ => rfl) (fun e30 (fe30 : e30 = x17 + 1) => ?_)
    refine wi_goto (nx := 58) (r1 := 21) (r2 := 0) (r3 := 0) rfl ?_
    refine wp.lo (lo := [(0, .ref 236), (1, vi 0), (2, vi (h 238 103)), (3, vi e30)]) ⟨rfl, rfl, rfl, rfl, trivial⟩ rfl ?_
    exact I18 e30 h27 ⟨g27, F28, F29, (show (0 ≤ e30 ∧ e30 ≤ 2) by omega)⟩ (show ((2 : Int) + 1 - e30).toNat < ((2 : Int) + 1 - x17).toNat by omega)
-- method 286: Model.comesBack(I)I
set_option maxRecDepth 100000 in
set_option maxHeartbeats 100000000 in
theorem ct_286_236_L1 {L : Nat} {xs : Nat → Int32} {d b c : Nat} {h : hp} {cr : Nat → Nat → Option Nat} {Q : hp_Q} (hcr : CR cr)  (g : GI h)   (pp0 : h 238 98 + h 238 99 + h 238 100 + h 238 101 + h 238 102 + h 238 106 = h 238 73) (pp1 : h 238 73 ≤ h 238 2) (pp2 : h 238 119 ≤ h 238 67) (pp3 : h 238 69 ≤ h 238 5) (pp4 : h 238 2 ≤ 12 * h 238 5) (pp5 : 1 ≤ h 238 102) (pp6 : h 238 99 ≤ 5) (k : ∀ (h2 : hp) (z0 : Int) , GI h2 → FR [(238, 238, some (80, 85)), (238, 238, some (99, 99)), (238, 238, some (102, 102)), (238, 238, some (103, 104))] h h2 → (0 ≤ z0 ∧ z0 ≤ 11) → (h2 238 98 + h2 238 99 + h2 238 100 + h2 238 101 + h2 238 102 + h2 238 106 = h2 238 73) → (h2 238 73 ≤ h2 238 2) → (h2 238 119 ≤ h2 238 67) → (h2 238 69 ≤ h2 238 5) → (h2 238 2 ≤ 12 * h2 238 5) → Q (.inl (some (vi z0))) (hp_w h2 cr) b c) : wp (md_xa (L, xs)) (d + 1) 286 (0, [(0, .ref 236), (1, vi 1)], [], hp_w h cr, b, c) Q := by
  have F0 : FR [(238, 238, some (80, 85)), (238, 238, some (99, 99)), (238, 238, some (102, 102)), (238, 238, some (103, 104))] h h := FR.refl
  have b1 := gi_b (lo := 0) (hi := 6) g 238 98 rfl
  have b2 := gi_b (lo := 0) (hi := 6) g 238 99 rfl
  have b3 := gi_b (lo := 0) (hi := 6) g 238 100 rfl
  have b4 := gi_b (lo := 0) (hi := 6) g 238 101 rfl
  have b5 := gi_b (lo := 0) (hi := 3) g 238 102 rfl
  have b6 := gi_b (lo := 0) (hi := 12) g 238 106 rfl
  have b7 := gi_b (lo := 0) (hi := 12) g 238 73 rfl
  have b8 := gi_b (lo := 0) (hi := 12) g 238 2 rfl
  have b9 := gi_b (lo := 0) (hi := 9999) g 238 119 rfl
  have b10 := gi_b (lo := 0) (hi := 9999) g 238 67 rfl
  have b11 := gi_b (lo := 0) (hi := 9) g 238 69 rfl
  have b12 := gi_b (lo := 0) (hi := 9) g 238 5 rfl
  refine wi_aload_n (i := 0) (x := 236) (nx := 1) (r1 := 0) (r2 := 0) (r3 := 0) rfl rfl ?_
  refine wr_gr (k0 := 236) (x := 238) (nx := 4) (r1 := 11) (r2 := 13) (r3 := 0) rfl rfl (by decide) rfl ⟨rfl, rfl⟩ rfl ?_
  refine wi_bipush (n := 103) (nx := 6) (r1 := 0) (r2 := 0) (r3 := 0) rfl (by decide) ?_
  have b13 := gi_b (lo := 0) (hi := 11) g 238 103 rfl
  refine wr_ia (k0 := 238) (a := 103) (f := 103) (x := h 238 103) (nx := 7) (r1 := 0) (r2 := 0) (r3 := 0) rfl (by decide) rfl (by omega) (by omega) (by decide) rfl ?_
  refine wi_istore_n (i := 2) (e := h 238 103) (lo2 := [(2, vi (h 238 103)), (0, .ref 236), (1, vi 1)]) (nx := 8) (r1 := 0) (r2 := 0) (r3 := 0) rfl rfl ?_
  refine wi_aload_n (i := 0) (x := 236) (nx := 9) (r1 := 0) (r2 := 0) (r3 := 0) rfl rfl ?_
  refine wr_gr (k0 := 236) (x := 238) (nx := 12) (r1 := 11) (r2 := 13) (r3 := 0) rfl rfl (by decide) rfl ⟨rfl, rfl⟩ rfl ?_
  refine wi_bipush (n := 102) (nx := 14) (r1 := 0) (r2 := 0) (r3 := 0) rfl (by decide) ?_
  refine wi_dup2 (nx := 15) (r1 := 0) (r2 := 0) (r3 := 0) rfl rfl rfl ?_
  refine wr_ia (k0 := 238) (a := 102) (f := 102) (x := h 238 102) (nx := 16) (r1 := 0) (r2 := 0) (r3 := 0) rfl (by decide) rfl (by omega) (by omega) (by decide) rfl ?_
  refine wi_iconst (n := 1) (nx := 17) (r1 := 0) (r2 := 0) (r3 := 0) rfl ?_
  refine wr_sub (nx := 18) (r1 := 0) (r2 := 0) (r3 := 0) rfl (fun e14 (fe14 : e14 = (h 238 102) - 1) => ?_)
  refine wr_is (k0 := 238) (a := 102) (f := 102) (x := e14) (bl := 0) (bh := 3) (nx := 19) (r1 := 0) (r2 := 0) (r3 := 0) rfl (by decide) rfl (by omega) (by omega) (by decide) g rfl (by omega) (fun h15 g15 w15 u15 => ?_)
  have F16 := F0.then rfl u15
  refine wi_iconst (n := 0) (nx := 20) (r1 := 0) (r2 := 0) (r3 := 0) rfl ?_
  refine wi_istore_n (i := 3) (e := 0) (lo2 := [(3, vi 0), (2, vi (h 238 103)), (0, .ref 236), (1, vi 1)]) (nx := 21) (r1 := 0) (r2 := 0) (r3 := 0) rfl rfl ?_
  refine wp.lo (lo := [(0, .ref 236), (1, vi 1), (2, vi (h 238 103)), (3, vi 0)]) ⟨rfl, rfl, rfl, rfl, trivial⟩ rfl ?_
  refine wl_1 (fun x17 h18 => GI h18 ∧ FR [(238, 238, some (80, 85)), (238, 238, some (99, 99)), (238, 238, some (102, 102)), (238, 238, some (103, 104))] h h18 ∧ FR [(238, 238, some (103, 104))] h15 h18 ∧ ((0 ≤ x17 ∧ x17 ≤ 2))) (fun x17 h18 => ((2 : Int) + 1 - x17).toNat) (fun x17 h18 => (21, [(0, .ref 236), (1, vi 1), (2, vi (h 238 103)), (3, vi x17)], [], hp_w h18 cr, b, c)) ?_ 0 h15 ⟨g15, F16, FR.refl, (show (0 ≤ 0 ∧ 0 ≤ 2) by omega)⟩
  intro x17 h18 ⟨g18, F19, u18, f18⟩ I18
  refine wi_iload_n (i := 3) (e := x17) (nx := 22) (r1 := 0) (r2 := 0) (r3 := 0) rfl rfl ?_
  refine wi_aload_n (i := 0) (x := 236) (nx := 23) (r1 := 0) (r2 := 0) (r3 := 0) rfl rfl ?_
  refine wr_gr (k0 := 236) (x := 238) (nx := 26) (r1 := 11) (r2 := 13) (r3 := 0) rfl rfl (by decide) rfl ⟨rfl, rfl⟩ rfl ?_
  refine wi_bipush (n := 102) (nx := 28) (r1 := 0) (r2 := 0) (r3 := 0) rfl (by decide) ?_
  refine wr_ia (k0 := 238) (a := 102) (f := 102) (x := e14) (nx := 29) (r1 := 0) (r2 := 0) (r3 := 0) rfl (by decide) rfl (by omega) (by omega) (by decide) ((u18 238 102 rfl).trans w15) ?_
  refine wi_icmp (cd := .ge) (nx := 32) (r1 := 58) (r2 := 0) (r3 := 0) rfl (by omega) (by omega) (fun (q20 : e14 ≤ x17) => ?_) (fun (q20 : ¬ (e14 ≤ x17)) => ?_)
  ·
    refine wi_aload_n (i := 0) (x := 236) (nx := 59) (r1 := 0) (r2 := 0) (r3 := 0) rfl rfl ?_
    refine wi_iload_n (i := 1) (e := 1) (nx := 60) (r1 := 0) (r2 := 0) (r3 := 0) rfl rfl ?_
    refine wi_iload_n (i := 2) (e := h 238 103) (nx := 61) (r1 := 0) (r2 := 0) (r3 := 0) rfl rfl ?_
    refine wr_V (k0 := 236) (rest := []) (as := [.ref 236, vi 1, vi (h 238 103)]) (nx := 64) (r1 := 280) (r2 := 2) (r3 := 11) rfl rfl rfl (of_decide_eq_true rfl) rfl rfl (by decide) rfl rfl (of_decide_eq_true rfl) (of_decide_eq_true rfl) ?_
    refine wi_aload_n (i := 0) (x := 236) (nx := 1) (r1 := 0) (r2 := 0) (r3 := 0) rfl rfl ?_
    refine wr_gr (k0 := 236) (x := 238) (nx := 4) (r1 := 11) (r2 := 13) (r3 := 0) rfl rfl (by decide) rfl ⟨rfl, rfl⟩ rfl ?_
    refine wi_bipush (n := 74) (nx := 6) (r1 := 0) (r2 := 0) (r3 := 0) rfl (by decide) ?_
    refine wi_bipush (n := 6) (nx := 8) (r1 := 0) (r2 := 0) (r3 := 0) rfl (by decide) ?_
    refine wi_iload_n (i := 1) (e := 1) (nx := 9) (r1 := 0) (r2 := 0) (r3 := 0) rfl rfl ?_
    refine wr_mulL (6) (nx := 10) (r1 := 0) (r2 := 0) (r3 := 0) rfl (by decide) ?_
    refine wr_addL (80) (nx := 11) (r1 := 0) (r2 := 0) (r3 := 0) rfl (by decide) ?_
    refine wi_aload_n (i := 0) (x := 236) (nx := 12) (r1 := 0) (r2 := 0) (r3 := 0) rfl rfl ?_
    refine wr_gr (k0 := 236) (x := 238) (nx := 15) (r1 := 11) (r2 := 13) (r3 := 0) rfl rfl (by decide) rfl ⟨rfl, rfl⟩ rfl ?_
    refine wi_bipush (n := 98) (nx := 17) (r1 := 0) (r2 := 0) (r3 := 0) rfl (by decide) ?_
    refine wi_iload_n (i := 1) (e := 1) (nx := 18) (r1 := 0) (r2 := 0) (r3 := 0) rfl rfl ?_
    refine wr_addL (99) (nx := 19) (r1 := 0) (r2 := 0) (r3 := 0) rfl (by decide) ?_
    refine wr_ia (k0 := 238) (a := 99) (f := 99) (x := h 238 99) (nx := 20) (r1 := 0) (r2 := 0) (r3 := 0) rfl (by decide) rfl (by omega) (by omega) (by decide) ((u18 238 99 rfl).trans (u15 238 99 rfl)) ?_
    refine wr_add (nx := 21) (r1 := 0) (r2 := 0) (r3 := 0) rfl (fun e21 (fe21 : e21 = 80 + (h 238 99)) => ?_)
    refine wi_iload_n (i := 2) (e := h 238 103) (nx := 22) (r1 := 0) (r2 := 0) (r3 := 0) rfl rfl ?_
    obtain ⟨i22, ei22⟩ : ∃ q : Nat, e21 = (q : Int) := ⟨(e21).toNat, by omega⟩
    refine wr_is (k0 := 238) (a := e21) (f := i22) (x := h 238 103) (bl := 0) (bh := 11) (nx := 23) (r1 := 0) (r2 := 0) (r3 := 0) rfl (by decide) rfl (by omega) (by omega) (by decide) g18 (gi_rg 80 6 (fun _ => rfl) (by decide +kernel) (by omega)) (by omega) (fun h23 g23 w23 u23 => ?_)
    have F24 := F19.then rfl (FR.idx (p := 80) (q := 85) u23 (by omega))
    refine wi_aload_n (i := 0) (x := 236) (nx := 24) (r1 := 0) (r2 := 0) (r3 := 0) rfl rfl ?_
    refine wr_gr (k0 := 236) (x := 238) (nx := 27) (r1 := 11) (r2 := 13) (r3 := 0) rfl rfl (by decide) rfl ⟨rfl, rfl⟩ rfl ?_
    refine wi_bipush (n := 98) (nx := 29) (r1 := 0) (r2 := 0) (r3 := 0) rfl (by decide) ?_
    refine wi_iload_n (i := 1) (e := 1) (nx := 30) (r1 := 0) (r2 := 0) (r3 := 0) rfl rfl ?_
    refine wr_addL (99) (nx := 31) (r1 := 0) (r2 := 0) (r3 := 0) rfl (by decide) ?_
    refine wi_dup2 (nx := 32) (r1 := 0) (r2 := 0) (r3 := 0) rfl rfl rfl ?_
    refine wr_ia (k0 := 238) (a := 99) (f := 99) (x := h 238 99) (nx := 33) (r1 := 0) (r2 := 0) (r3 := 0) rfl (by decide) rfl (by omega) (by omega) (by decide) ((u23 238 99 (fn_i (by omega) fn_0)).trans ((u18 238 99 rfl).trans (u15 238 99 rfl))) ?_
    refine wi_iconst (n := 1) (nx := 34) (r1 := 0) (r2 := 0) (r3 := 0) rfl ?_
    refine wr_add (nx := 35) (r1 := 0) (r2 := 0) (r3 := 0) rfl (fun e25 (fe25 : e25 = (h 238 99) + 1) => ?_)
    refine wr_is (k0 := 238) (a := 99) (f := 99) (x := e25) (bl := 0) (bh := 6) (nx := 36) (r1 := 0) (r2 := 0) (r3 := 0) rfl (by decide) rfl (by omega) (by omega) (by decide) g23 rfl (by omega) (fun h26 g26 w26 u26 => ?_)
    have F27 := F24.then rfl u26
    refine wi_return (nx := 37) (r1 := 0) (r2 := 0) (r3 := 0) rfl rfl ?_
    refine wk_n ?_
    refine wi_iload_n (i := 2) (e := h 238 103) (nx := 65) (r1 := 0) (r2 := 0) (r3 := 0) rfl rfl ?_
    refine wi_ireturn (nx := 66) (r1 := 0) (r2 := 0) (r3 := 0) rfl rfl ?_
    have e28 : h26 238 98 = h 238 98 := ((u26 238 98 rfl).trans ((u23 238 98 (fn_i (by omega) fn_0)).trans ((u18 238 98 rfl).trans (u15 238 98 rfl))))
    have e29 : h26 238 99 = e25 := w26
    have e30 : h26 238 100 = h 238 100 := ((u26 238 100 rfl).trans ((u23 238 100 (fn_i (by omega) fn_0)).trans ((u18 238 100 rfl).trans (u15 238 100 rfl))))
    have e31 : h26 238 101 = h 238 101 := ((u26 238 101 rfl).trans ((u23 238 101 (fn_i (by omega) fn_0)).trans ((u18 238 101 rfl).trans (u15 238 101 rfl))))
    have e32 : h26 238 102 = e14 := ((u26 238 102 rfl).trans ((u23 238 102 (fn_i (by omega) fn_0)).trans ((u18 238 102 rfl).trans w15)))
    have e33 : h26 238 106 = h 238 106 := ((u26 238 106 rfl).trans ((u23 238 106 (fn_i (by omega) fn_0)).trans ((u18 238 106 rfl).trans (u15 238 106 rfl))))
    have e34 : h26 238 73 = h 238 73 := ((u26 238 73 rfl).trans ((u23 238 73 (fn_i (by omega) fn_0)).trans ((u18 238 73 rfl).trans (u15 238 73 rfl))))
    have e35 : h26 238 2 = h 238 2 := ((u26 238 2 rfl).trans ((u23 238 2 (fn_i (by omega) fn_0)).trans ((u18 238 2 rfl).trans (u15 238 2 rfl))))
    have e36 : h26 238 119 = h 238 119 := ((u26 238 119 rfl).trans ((u23 238 119 (fn_i (by omega) fn_0)).trans ((u18 238 119 rfl).trans (u15 238 119 rfl))))
    have e37 : h26 238 67 = h 238 67 := ((u26 238 67 rfl).trans ((u23 238 67 (fn_i (by omega) fn_0)).trans ((u18 238 67 rfl).trans (u15 238 67 rfl))))
    have e38 : h26 238 69 = h 238 69 := ((u26 238 69 rfl).trans ((u23 238 69 (fn_i (by omega) fn_0)).trans ((u18 238 69 rfl).trans (u15 238 69 rfl))))
    have e39 : h26 238 5 = h 238 5 := ((u26 238 5 rfl).trans ((u23 238 5 (fn_i (by omega) fn_0)).trans ((u18 238 5 rfl).trans (u15 238 5 rfl))))
    exact k h26 (h 238 103) g26 F27 (by omega) (show (h26 238 98) + (h26 238 99) + (h26 238 100) + (h26 238 101) + (h26 238 102) + (h26 238 106) = (h26 238 73) by omega) (show (h26 238 73) ≤ (h26 238 2) by omega) (show (h26 238 119) ≤ (h26 238 67) by omega) (show (h26 238 69) ≤ (h26 238 5) by omega) (show (h26 238 2) ≤ 12 * (h26 238 5) by omega)
  ·
    refine wi_aload_n (i := 0) (x := 236) (nx := 33) (r1 := 0) (r2 := 0) (r3 := 0) rfl rfl ?_
    refine wr_gr (k0 := 236) (x := 238) (nx := 36) (r1 := 11) (r2 := 13) (r3 := 0) rfl rfl (by decide) rfl ⟨rfl, rfl⟩ rfl ?_
    refine wi_bipush (n := 103) (nx := 38) (r1 := 0) (r2 := 0) (r3 := 0) rfl (by decide) ?_
    refine wi_iload_n (i := 3) (e := x17) (nx := 39) (r1 := 0) (r2 := 0) (r3 := 0) rfl rfl ?_
    refine wr_add (nx := 40) (r1 := 0) (r2 := 0) (r3 := 0) rfl (fun e21 (fe21 : e21 = 103 + x17) => ?_)
    refine wi_aload_n (i := 0) (x := 236) (nx := 41) (r1 := 0) (r2 := 0) (r3 := 0) rfl rfl ?_
    refine wr_gr (k0 := 236) (x := 238) (nx := 44) (r1 := 11) (r2 := 13) (r3 := 0) rfl rfl (by decide) rfl ⟨rfl, rfl⟩ rfl ?_
    refine wi_bipush (n := 103) (nx := 46) (r1 := 0) (r2 := 0) (r3 := 0) rfl (by decide) ?_
    refine wi_iload_n (i := 3) (e := x17) (nx := 47) (r1 := 0) (r2 := 0) (r3 := 0) rfl rfl ?_
    refine wr_add (nx := 48) (r1 := 0) (r2 := 0) (r3 := 0) rfl (fun e22 (fe22 : e22 = 103 + x17) => ?_)
    refine wi_iconst (n := 1) (nx := 49) (r1 := 0) (r2 := 0) (r3 := 0) rfl ?_
    refine wr_add (nx := 50) (r1 := 0) (r2 := 0) (r3 := 0) rfl (fun e23 (fe23 : e23 = e22 + 1) => ?_)
    obtain ⟨i24, ei24⟩ : ∃ q : Nat, e23 = (q : Int) := ⟨(e23).toNat, by omega⟩
    have b25 := gi_b (lo := 0) (hi := 11) g18 238 i24 (gi_rg 104 2 (fun _ => rfl) (by decide +kernel) (by omega))
    refine wr_ia (k0 := 238) (a := e23) (f := i24) (x := h18 238 i24) (nx := 51) (r1 := 0) (r2 := 0) (r3 := 0) rfl (by decide) rfl (by omega) (by omega) (by decide) rfl ?_
    obtain ⟨i26, ei26⟩ : ∃ q : Nat, e21 = (q : Int) := ⟨(e21).toNat, by omega⟩
    refine wr_is (k0 := 238) (a := e21) (f := i26) (x := h18 238 i24) (bl := 0) (bh := 11) (nx := 52) (r1 := 0) (r2 := 0) (r3 := 0) rfl (by decide) rfl (by omega) (by omega) (by decide) g18 (gi_rg 103 2 (fun _ => rfl) (by decide +kernel) (by omega)) (by omega) (fun h27 g27 w27 u27 => ?_)
    have F28 := F19.then rfl (FR.idx (p := 103) (q := 104) u27 (by omega))
    have F29 := u18.then rfl (FR.idx (p := 103) (q := 104) u27 (by omega))
    refine wr_iinc (i := 3) (n := 1) (v := x17) (fun e30 => [(3, vi e30), (0, .ref 236), (1, vi 1), (2, vi (h 238 103))]) (nx := 55) (r1 := 0) (r2 := 0) (r3 := 0) rfl rfl (fun _ => rfl) (fun e30 (fe30 : e30 = x17 + 1) => ?_)
    refine wi_goto (nx := 58) (r1 := 21) (r2 := 0) (r3 := 0) rfl ?_
    refine wp.lo (lo := [(0, .ref 236), (1, vi 1), (2, vi (h 238 103)), (3, vi e30)]) ⟨rfl, rfl, rfl, rfl, trivial⟩ rfl ?_
    exact I18 e30 h27 ⟨g27, F28, F29, (show (0 ≤ e30 ∧ e30 ≤ 2) by omega)⟩ (show ((2 : Int) + 1 - e30).toNat < ((2 : Int) + 1 - x17).toNat by omega)
-- method 286: Model.comesBack(I)I
set_option maxRecDepth 100000 in
set_option maxHeartbeats 100000000 in
theorem ct_286_236_L2 {L : Nat} {xs : Nat → Int32} {d b c : Nat} {h : hp} {cr : Nat → Nat → Option Nat} {Q : hp_Q} (hcr : CR cr)  (g : GI h)   (pp0 : h 238 98 + h 238 99 + h 238 100 + h 238 101 + h 238 102 + h 238 106 = h 238 73) (pp1 : h 238 73 ≤ h 238 2) (pp2 : h 238 119 ≤ h 238 67) (pp3 : h 238 69 ≤ h 238 5) (pp4 : h 238 2 ≤ 12 * h 238 5) (pp5 : 1 ≤ h 238 102) (pp6 : h 238 100 ≤ 5) (k : ∀ (h2 : hp) (z0 : Int) , GI h2 → FR [(238, 238, some (86, 91)), (238, 238, some (100, 100)), (238, 238, some (102, 102)), (238, 238, some (103, 104))] h h2 → (0 ≤ z0 ∧ z0 ≤ 11) → (h2 238 98 + h2 238 99 + h2 238 100 + h2 238 101 + h2 238 102 + h2 238 106 = h2 238 73) → (h2 238 73 ≤ h2 238 2) → (h2 238 119 ≤ h2 238 67) → (h2 238 69 ≤ h2 238 5) → (h2 238 2 ≤ 12 * h2 238 5) → Q (.inl (some (vi z0))) (hp_w h2 cr) b c) : wp (md_xa (L, xs)) (d + 1) 286 (0, [(0, .ref 236), (1, vi 2)], [], hp_w h cr, b, c) Q := by
  have F0 : FR [(238, 238, some (86, 91)), (238, 238, some (100, 100)), (238, 238, some (102, 102)), (238, 238, some (103, 104))] h h := FR.refl
  have b1 := gi_b (lo := 0) (hi := 6) g 238 98 rfl
  have b2 := gi_b (lo := 0) (hi := 6) g 238 99 rfl
  have b3 := gi_b (lo := 0) (hi := 6) g 238 100 rfl
  have b4 := gi_b (lo := 0) (hi := 6) g 238 101 rfl
  have b5 := gi_b (lo := 0) (hi := 3) g 238 102 rfl
  have b6 := gi_b (lo := 0) (hi := 12) g 238 106 rfl
  have b7 := gi_b (lo := 0) (hi := 12) g 238 73 rfl
  have b8 := gi_b (lo := 0) (hi := 12) g 238 2 rfl
  have b9 := gi_b (lo := 0) (hi := 9999) g 238 119 rfl
  have b10 := gi_b (lo := 0) (hi := 9999) g 238 67 rfl
  have b11 := gi_b (lo := 0) (hi := 9) g 238 69 rfl
  have b12 := gi_b (lo := 0) (hi := 9) g 238 5 rfl
  refine wi_aload_n (i := 0) (x := 236) (nx := 1) (r1 := 0) (r2 := 0) (r3 := 0) rfl rfl ?_
  refine wr_gr (k0 := 236) (x := 238) (nx := 4) (r1 := 11) (r2 := 13) (r3 := 0) rfl rfl (by decide) rfl ⟨rfl, rfl⟩ rfl ?_
  refine wi_bipush (n := 103) (nx := 6) (r1 := 0) (r2 := 0) (r3 := 0) rfl (by decide) ?_
  have b13 := gi_b (lo := 0) (hi := 11) g 238 103 rfl
  refine wr_ia (k0 := 238) (a := 103) (f := 103) (x := h 238 103) (nx := 7) (r1 := 0) (r2 := 0) (r3 := 0) rfl (by decide) rfl (by omega) (by omega) (by decide) rfl ?_
  refine wi_istore_n (i := 2) (e := h 238 103) (lo2 := [(2, vi (h 238 103)), (0, .ref 236), (1, vi 2)]) (nx := 8) (r1 := 0) (r2 := 0) (r3 := 0) rfl rfl ?_
  refine wi_aload_n (i := 0) (x := 236) (nx := 9) (r1 := 0) (r2 := 0) (r3 := 0) rfl rfl ?_
  refine wr_gr (k0 := 236) (x := 238) (nx := 12) (r1 := 11) (r2 := 13) (r3 := 0) rfl rfl (by decide) rfl ⟨rfl, rfl⟩ rfl ?_
  refine wi_bipush (n := 102) (nx := 14) (r1 := 0) (r2 := 0) (r3 := 0) rfl (by decide) ?_
  refine wi_dup2 (nx := 15) (r1 := 0) (r2 := 0) (r3 := 0) rfl rfl rfl ?_
  refine wr_ia (k0 := 238) (a := 102) (f := 102) (x := h 238 102) (nx := 16) (r1 := 0) (r2 := 0) (r3 := 0) rfl (by decide) rfl (by omega) (by omega) (by decide) rfl ?_
  refine wi_iconst (n := 1) (nx := 17) (r1 := 0) (r2 := 0) (r3 := 0) rfl ?_
  refine wr_sub (nx := 18) (r1 := 0) (r2 := 0) (r3 := 0) rfl (fun e14 (fe14 : e14 = (h 238 102) - 1) => ?_)
  refine wr_is (k0 := 238) (a := 102) (f := 102) (x := e14) (bl := 0) (bh := 3) (nx := 19) (r1 := 0) (r2 := 0) (r3 := 0) rfl (by decide) rfl (by omega) (by omega) (by decide) g rfl (by omega) (fun h15 g15 w15 u15 => ?_)
  have F16 := F0.then rfl u15
  refine wi_iconst (n := 0) (nx := 20) (r1 := 0) (r2 := 0) (r3 := 0) rfl ?_
  refine wi_istore_n (i := 3) (e := 0) (lo2 := [(3, vi 0), (2, vi (h 238 103)), (0, .ref 236), (1, vi 2)]) (nx := 21) (r1 := 0) (r2 := 0) (r3 := 0) rfl rfl ?_
  refine wp.lo (lo := [(0, .ref 236), (1, vi 2), (2, vi (h 238 103)), (3, vi 0)]) ⟨rfl, rfl, rfl, rfl, trivial⟩ rfl ?_
  refine wl_1 (fun x17 h18 => GI h18 ∧ FR [(238, 238, some (86, 91)), (238, 238, some (100, 100)), (238, 238, some (102, 102)), (238, 238, some (103, 104))] h h18 ∧ FR [(238, 238, some (103, 104))] h15 h18 ∧ ((0 ≤ x17 ∧ x17 ≤ 2))) (fun x17 h18 => ((2 : Int) + 1 - x17).toNat) (fun x17 h18 => (21, [(0, .ref 236), (1, vi 2), (2, vi (h 238 103)), (3, vi x17)], [], hp_w h18 cr, b, c)) ?_ 0 h15 ⟨g15, F16, FR.refl, (show (0 ≤ 0 ∧ 0 ≤ 2) by omega)⟩
  intro x17 h18 ⟨g18, F19, u18, f18⟩ I18
  refine wi_iload_n (i := 3) (e := x17) (nx := 22) (r1 := 0) (r2 := 0) (r3 := 0) rfl rfl ?_
  refine wi_aload_n (i := 0) (x := 236) (nx := 23) (r1 := 0) (r2 := 0) (r3 := 0) rfl rfl ?_
  refine wr_gr (k0 := 236) (x := 238) (nx := 26) (r1 := 11) (r2 := 13) (r3 := 0) rfl rfl (by decide) rfl ⟨rfl, rfl⟩ rfl ?_
  refine wi_bipush (n := 102) (nx := 28) (r1 := 0) (r2 := 0) (r3 := 0) rfl (by decide) ?_
  refine wr_ia (k0 := 238) (a := 102) (f := 102) (x := e14) (nx := 29) (r1 := 0) (r2 := 0) (r3 := 0) rfl (by decide) rfl (by omega) (by omega) (by decide) ((u18 238 102 rfl).trans w15) ?_
  refine wi_icmp (cd := .ge) (nx := 32) (r1 := 58) (r2 := 0) (r3 := 0) rfl (by omega) (by omega) (fun (q20 : e14 ≤ x17) => ?_) (fun (q20 : ¬ (e14 ≤ x17)) => ?_)
  ·
    refine wi_aload_n (i := 0) (x := 236) (nx := 59) (r1 := 0) (r2 := 0) (r3 := 0) rfl rfl ?_
    refine wi_iload_n (i := 1) (e := 2) (nx := 60) (r1 := 0) (r2 := 0) (r3 := 0) rfl rfl ?_
    refine wi_iload_n (i := 2) (e := h 238 103) (nx := 61) (r1 := 0) (r2 := 0) (r3 := 0) rfl rfl ?_
    refine wr_V (k0 := 236) (rest := []) (as := [.ref 236, vi 2, vi (h 238 103)]) (nx := 64) (r1 := 280) (r2 := 2) (r3 := 11) rfl rfl rfl (of_decide_eq_true rfl) rfl rfl (by decide) rfl rfl (of_decide_eq_true rfl) (of_decide_eq_true rfl) ?_
    refine wi_aload_n (i := 0) (x := 236) (nx := 1) (r1 := 0) (r2 := 0) (r3 := 0) rfl rfl ?_
    refine wr_gr (k0 := 236) (x := 238) (nx := 4) (r1 := 11) (r2 := 13) (r3 := 0) rfl rfl (by decide) rfl ⟨rfl, rfl⟩ rfl ?_
    refine wi_bipush (n := 74) (nx := 6) (r1 := 0) (r2 := 0) (r3 := 0) rfl (by decide) ?_
    refine wi_bipush (n := 6) (nx := 8) (r1 := 0) (r2 := 0) (r3 := 0) rfl (by decide) ?_
    refine wi_iload_n (i := 1) (e := 2) (nx := 9) (r1 := 0) (r2 := 0) (r3 := 0) rfl rfl ?_
    refine wr_mulL (12) (nx := 10) (r1 := 0) (r2 := 0) (r3 := 0) rfl (by decide) ?_
    refine wr_addL (86) (nx := 11) (r1 := 0) (r2 := 0) (r3 := 0) rfl (by decide) ?_
    refine wi_aload_n (i := 0) (x := 236) (nx := 12) (r1 := 0) (r2 := 0) (r3 := 0) rfl rfl ?_
    refine wr_gr (k0 := 236) (x := 238) (nx := 15) (r1 := 11) (r2 := 13) (r3 := 0) rfl rfl (by decide) rfl ⟨rfl, rfl⟩ rfl ?_
    refine wi_bipush (n := 98) (nx := 17) (r1 := 0) (r2 := 0) (r3 := 0) rfl (by decide) ?_
    refine wi_iload_n (i := 1) (e := 2) (nx := 18) (r1 := 0) (r2 := 0) (r3 := 0) rfl rfl ?_
    refine wr_addL (100) (nx := 19) (r1 := 0) (r2 := 0) (r3 := 0) rfl (by decide) ?_
    refine wr_ia (k0 := 238) (a := 100) (f := 100) (x := h 238 100) (nx := 20) (r1 := 0) (r2 := 0) (r3 := 0) rfl (by decide) rfl (by omega) (by omega) (by decide) ((u18 238 100 rfl).trans (u15 238 100 rfl)) ?_
    refine wr_add (nx := 21) (r1 := 0) (r2 := 0) (r3 := 0) rfl (fun e21 (fe21 : e21 = 86 + (h 238 100)) => ?_)
    refine wi_iload_n (i := 2) (e := h 238 103) (nx := 22) (r1 := 0) (r2 := 0) (r3 := 0) rfl rfl ?_
    obtain ⟨i22, ei22⟩ : ∃ q : Nat, e21 = (q : Int) := ⟨(e21).toNat, by omega⟩
    refine wr_is (k0 := 238) (a := e21) (f := i22) (x := h 238 103) (bl := 0) (bh := 11) (nx := 23) (r1 := 0) (r2 := 0) (r3 := 0) rfl (by decide) rfl (by omega) (by omega) (by decide) g18 (gi_rg 86 6 (fun _ => rfl) (by decide +kernel) (by omega)) (by omega) (fun h23 g23 w23 u23 => ?_)
    have F24 := F19.then rfl (FR.idx (p := 86) (q := 91) u23 (by omega))
    refine wi_aload_n (i := 0) (x := 236) (nx := 24) (r1 := 0) (r2 := 0) (r3 := 0) rfl rfl ?_
    refine wr_gr (k0 := 236) (x := 238) (nx := 27) (r1 := 11) (r2 := 13) (r3 := 0) rfl rfl (by decide) rfl ⟨rfl, rfl⟩ rfl ?_
    refine wi_bipush (n := 98) (nx := 29) (r1 := 0) (r2 := 0) (r3 := 0) rfl (by decide) ?_
    refine wi_iload_n (i := 1) (e := 2) (nx := 30) (r1 := 0) (r2 := 0) (r3 := 0) rfl rfl ?_
    refine wr_addL (100) (nx := 31) (r1 := 0) (r2 := 0) (r3 := 0) rfl (by decide) ?_
    refine wi_dup2 (nx := 32) (r1 := 0) (r2 := 0) (r3 := 0) rfl rfl rfl ?_
    refine wr_ia (k0 := 238) (a := 100) (f := 100) (x := h 238 100) (nx := 33) (r1 := 0) (r2 := 0) (r3 := 0) rfl (by decide) rfl (by omega) (by omega) (by decide) ((u23 238 100 (fn_i (by omega) fn_0)).trans ((u18 238 100 rfl).trans (u15 238 100 rfl))) ?_
    refine wi_iconst (n := 1) (nx := 34) (r1 := 0) (r2 := 0) (r3 := 0) rfl ?_
    refine wr_add (nx := 35) (r1 := 0) (r2 := 0) (r3 := 0) rfl (fun e25 (fe25 : e25 = (h 238 100) + 1) => ?_)
    refine wr_is (k0 := 238) (a := 100) (f := 100) (x := e25) (bl := 0) (bh := 6) (nx := 36) (r1 := 0) (r2 := 0) (r3 := 0) rfl (by decide) rfl (by omega) (by omega) (by decide) g23 rfl (by omega) (fun h26 g26 w26 u26 => ?_)
    have F27 := F24.then rfl u26
    refine wi_return (nx := 37) (r1 := 0) (r2 := 0) (r3 := 0) rfl rfl ?_
    refine wk_n ?_
    refine wi_iload_n (i := 2) (e := h 238 103) (nx := 65) (r1 := 0) (r2 := 0) (r3 := 0) rfl rfl ?_
    refine wi_ireturn (nx := 66) (r1 := 0) (r2 := 0) (r3 := 0) rfl rfl ?_
    have e28 : h26 238 98 = h 238 98 := ((u26 238 98 rfl).trans ((u23 238 98 (fn_i (by omega) fn_0)).trans ((u18 238 98 rfl).trans (u15 238 98 rfl))))
    have e29 : h26 238 99 = h 238 99 := ((u26 238 99 rfl).trans ((u23 238 99 (fn_i (by omega) fn_0)).trans ((u18 238 99 rfl).trans (u15 238 99 rfl))))
    have e30 : h26 238 100 = e25 := w26
    have e31 : h26 238 101 = h 238 101 := ((u26 238 101 rfl).trans ((u23 238 101 (fn_i (by omega) fn_0)).trans ((u18 238 101 rfl).trans (u15 238 101 rfl))))
    have e32 : h26 238 102 = e14 := ((u26 238 102 rfl).trans ((u23 238 102 (fn_i (by omega) fn_0)).trans ((u18 238 102 rfl).trans w15)))
    have e33 : h26 238 106 = h 238 106 := ((u26 238 106 rfl).trans ((u23 238 106 (fn_i (by omega) fn_0)).trans ((u18 238 106 rfl).trans (u15 238 106 rfl))))
    have e34 : h26 238 73 = h 238 73 := ((u26 238 73 rfl).trans ((u23 238 73 (fn_i (by omega) fn_0)).trans ((u18 238 73 rfl).trans (u15 238 73 rfl))))
    have e35 : h26 238 2 = h 238 2 := ((u26 238 2 rfl).trans ((u23 238 2 (fn_i (by omega) fn_0)).trans ((u18 238 2 rfl).trans (u15 238 2 rfl))))
    have e36 : h26 238 119 = h 238 119 := ((u26 238 119 rfl).trans ((u23 238 119 (fn_i (by omega) fn_0)).trans ((u18 238 119 rfl).trans (u15 238 119 rfl))))
    have e37 : h26 238 67 = h 238 67 := ((u26 238 67 rfl).trans ((u23 238 67 (fn_i (by omega) fn_0)).trans ((u18 238 67 rfl).trans (u15 238 67 rfl))))
    have e38 : h26 238 69 = h 238 69 := ((u26 238 69 rfl).trans ((u23 238 69 (fn_i (by omega) fn_0)).trans ((u18 238 69 rfl).trans (u15 238 69 rfl))))
    have e39 : h26 238 5 = h 238 5 := ((u26 238 5 rfl).trans ((u23 238 5 (fn_i (by omega) fn_0)).trans ((u18 238 5 rfl).trans (u15 238 5 rfl))))
    exact k h26 (h 238 103) g26 F27 (by omega) (show (h26 238 98) + (h26 238 99) + (h26 238 100) + (h26 238 101) + (h26 238 102) + (h26 238 106) = (h26 238 73) by omega) (show (h26 238 73) ≤ (h26 238 2) by omega) (show (h26 238 119) ≤ (h26 238 67) by omega) (show (h26 238 69) ≤ (h26 238 5) by omega) (show (h26 238 2) ≤ 12 * (h26 238 5) by omega)
  ·
    refine wi_aload_n (i := 0) (x := 236) (nx := 33) (r1 := 0) (r2 := 0) (r3 := 0) rfl rfl ?_
    refine wr_gr (k0 := 236) (x := 238) (nx := 36) (r1 := 11) (r2 := 13) (r3 := 0) rfl rfl (by decide) rfl ⟨rfl, rfl⟩ rfl ?_
    refine wi_bipush (n := 103) (nx := 38) (r1 := 0) (r2 := 0) (r3 := 0) rfl (by decide) ?_
    refine wi_iload_n (i := 3) (e := x17) (nx := 39) (r1 := 0) (r2 := 0) (r3 := 0) rfl rfl ?_
    refine wr_add (nx := 40) (r1 := 0) (r2 := 0) (r3 := 0) rfl (fun e21 (fe21 : e21 = 103 + x17) => ?_)
    refine wi_aload_n (i := 0) (x := 236) (nx := 41) (r1 := 0) (r2 := 0) (r3 := 0) rfl rfl ?_
    refine wr_gr (k0 := 236) (x := 238) (nx := 44) (r1 := 11) (r2 := 13) (r3 := 0) rfl rfl (by decide) rfl ⟨rfl, rfl⟩ rfl ?_
    refine wi_bipush (n := 103) (nx := 46) (r1 := 0) (r2 := 0) (r3 := 0) rfl (by decide) ?_
    refine wi_iload_n (i := 3) (e := x17) (nx := 47) (r1 := 0) (r2 := 0) (r3 := 0) rfl rfl ?_
    refine wr_add (nx := 48) (r1 := 0) (r2 := 0) (r3 := 0) rfl (fun e22 (fe22 : e22 = 103 + x17) => ?_)
    refine wi_iconst (n := 1) (nx := 49) (r1 := 0) (r2 := 0) (r3 := 0) rfl ?_
    refine wr_add (nx := 50) (r1 := 0) (r2 := 0) (r3 := 0) rfl (fun e23 (fe23 : e23 = e22 + 1) => ?_)
    obtain ⟨i24, ei24⟩ : ∃ q : Nat, e23 = (q : Int) := ⟨(e23).toNat, by omega⟩
    have b25 := gi_b (lo := 0) (hi := 11) g18 238 i24 (gi_rg 104 2 (fun _ => rfl) (by decide +kernel) (by omega))
    refine wr_ia (k0 := 238) (a := e23) (f := i24) (x := h18 238 i24) (nx := 51) (r1 := 0) (r2 := 0) (r3 := 0) rfl (by decide) rfl (by omega) (by omega) (by decide) rfl ?_
    obtain ⟨i26, ei26⟩ : ∃ q : Nat, e21 = (q : Int) := ⟨(e21).toNat, by omega⟩
    refine wr_is (k0 := 238) (a := e21) (f := i26) (x := h18 238 i24) (bl := 0) (bh := 11) (nx := 52) (r1 := 0) (r2 := 0) (r3 := 0) rfl (by decide) rfl (by omega) (by omega) (by decide) g18 (gi_rg 103 2 (fun _ => rfl) (by decide +kernel) (by omega)) (by omega) (fun h27 g27 w27 u27 => ?_)
    have F28 := F19.then rfl (FR.idx (p := 103) (q := 104) u27 (by omega))
    have F29 := u18.then rfl (FR.idx (p := 103) (q := 104) u27 (by omega))
    refine wr_iinc (i := 3) (n := 1) (v := x17) (fun e30 => [(3, vi e30), (0, .ref 236), (1, vi 2), (2, vi (h 238 103))]) (nx := 55) (r1 := 0) (r2 := 0) (r3 := 0) rfl rfl (fun _ => rfl) (fun e30 (fe30 : e30 = x17 + 1) => ?_)
    refine wi_goto (nx := 58) (r1 := 21) (r2 := 0) (r3 := 0) rfl ?_
    refine wp.lo (lo := [(0, .ref 236), (1, vi 2), (2, vi (h 238 103)), (3, vi e30)]) ⟨rfl, rfl, rfl, rfl, trivial⟩ rfl ?_
    exact I18 e30 h27 ⟨g27, F28, F29, (show (0 ≤ e30 ∧ e30 ≤ 2) by omega)⟩ (show ((2 : Int) + 1 - e30).toNat < ((2 : Int) + 1 - x17).toNat by omega)
-- method 286: Model.comesBack(I)I
set_option maxRecDepth 100000 in
set_option maxHeartbeats 100000000 in
theorem ct_286_236_L3 {L : Nat} {xs : Nat → Int32} {d b c : Nat} {h : hp} {cr : Nat → Nat → Option Nat} {Q : hp_Q} (hcr : CR cr)  (g : GI h)   (pp0 : h 238 98 + h 238 99 + h 238 100 + h 238 101 + h 238 102 + h 238 106 = h 238 73) (pp1 : h 238 73 ≤ h 238 2) (pp2 : h 238 119 ≤ h 238 67) (pp3 : h 238 69 ≤ h 238 5) (pp4 : h 238 2 ≤ 12 * h 238 5) (pp5 : 1 ≤ h 238 102) (pp6 : h 238 101 ≤ 5) (k : ∀ (h2 : hp) (z0 : Int) , GI h2 → FR [(238, 238, some (92, 97)), (238, 238, some (101, 101)), (238, 238, some (102, 102)), (238, 238, some (103, 104))] h h2 → (0 ≤ z0 ∧ z0 ≤ 11) → (h2 238 98 + h2 238 99 + h2 238 100 + h2 238 101 + h2 238 102 + h2 238 106 = h2 238 73) → (h2 238 73 ≤ h2 238 2) → (h2 238 119 ≤ h2 238 67) → (h2 238 69 ≤ h2 238 5) → (h2 238 2 ≤ 12 * h2 238 5) → Q (.inl (some (vi z0))) (hp_w h2 cr) b c) : wp (md_xa (L, xs)) (d + 1) 286 (0, [(0, .ref 236), (1, vi 3)], [], hp_w h cr, b, c) Q := by
  have F0 : FR [(238, 238, some (92, 97)), (238, 238, some (101, 101)), (238, 238, some (102, 102)), (238, 238, some (103, 104))] h h := FR.refl
  have b1 := gi_b (lo := 0) (hi := 6) g 238 98 rfl
  have b2 := gi_b (lo := 0) (hi := 6) g 238 99 rfl
  have b3 := gi_b (lo := 0) (hi := 6) g 238 100 rfl
  have b4 := gi_b (lo := 0) (hi := 6) g 238 101 rfl
  have b5 := gi_b (lo := 0) (hi := 3) g 238 102 rfl
  have b6 := gi_b (lo := 0) (hi := 12) g 238 106 rfl
  have b7 := gi_b (lo := 0) (hi := 12) g 238 73 rfl
  have b8 := gi_b (lo := 0) (hi := 12) g 238 2 rfl
  have b9 := gi_b (lo := 0) (hi := 9999) g 238 119 rfl
  have b10 := gi_b (lo := 0) (hi := 9999) g 238 67 rfl
  have b11 := gi_b (lo := 0) (hi := 9) g 238 69 rfl
  have b12 := gi_b (lo := 0) (hi := 9) g 238 5 rfl
  refine wi_aload_n (i := 0) (x := 236) (nx := 1) (r1 := 0) (r2 := 0) (r3 := 0) rfl rfl ?_
  refine wr_gr (k0 := 236) (x := 238) (nx := 4) (r1 := 11) (r2 := 13) (r3 := 0) rfl rfl (by decide) rfl ⟨rfl, rfl⟩ rfl ?_
  refine wi_bipush (n := 103) (nx := 6) (r1 := 0) (r2 := 0) (r3 := 0) rfl (by decide) ?_
  have b13 := gi_b (lo := 0) (hi := 11) g 238 103 rfl
  refine wr_ia (k0 := 238) (a := 103) (f := 103) (x := h 238 103) (nx := 7) (r1 := 0) (r2 := 0) (r3 := 0) rfl (by decide) rfl (by omega) (by omega) (by decide) rfl ?_
  refine wi_istore_n (i := 2) (e := h 238 103) (lo2 := [(2, vi (h 238 103)), (0, .ref 236), (1, vi 3)]) (nx := 8) (r1 := 0) (r2 := 0) (r3 := 0) rfl rfl ?_
  refine wi_aload_n (i := 0) (x := 236) (nx := 9) (r1 := 0) (r2 := 0) (r3 := 0) rfl rfl ?_
  refine wr_gr (k0 := 236) (x := 238) (nx := 12) (r1 := 11) (r2 := 13) (r3 := 0) rfl rfl (by decide) rfl ⟨rfl, rfl⟩ rfl ?_
  refine wi_bipush (n := 102) (nx := 14) (r1 := 0) (r2 := 0) (r3 := 0) rfl (by decide) ?_
  refine wi_dup2 (nx := 15) (r1 := 0) (r2 := 0) (r3 := 0) rfl rfl rfl ?_
  refine wr_ia (k0 := 238) (a := 102) (f := 102) (x := h 238 102) (nx := 16) (r1 := 0) (r2 := 0) (r3 := 0) rfl (by decide) rfl (by omega) (by omega) (by decide) rfl ?_
  refine wi_iconst (n := 1) (nx := 17) (r1 := 0) (r2 := 0) (r3 := 0) rfl ?_
  refine wr_sub (nx := 18) (r1 := 0) (r2 := 0) (r3 := 0) rfl (fun e14 (fe14 : e14 = (h 238 102) - 1) => ?_)
  refine wr_is (k0 := 238) (a := 102) (f := 102) (x := e14) (bl := 0) (bh := 3) (nx := 19) (r1 := 0) (r2 := 0) (r3 := 0) rfl (by decide) rfl (by omega) (by omega) (by decide) g rfl (by omega) (fun h15 g15 w15 u15 => ?_)
  have F16 := F0.then rfl u15
  refine wi_iconst (n := 0) (nx := 20) (r1 := 0) (r2 := 0) (r3 := 0) rfl ?_
  refine wi_istore_n (i := 3) (e := 0) (lo2 := [(3, vi 0), (2, vi (h 238 103)), (0, .ref 236), (1, vi 3)]) (nx := 21) (r1 := 0) (r2 := 0) (r3 := 0) rfl rfl ?_
  refine wp.lo (lo := [(0, .ref 236), (1, vi 3), (2, vi (h 238 103)), (3, vi 0)]) ⟨rfl, rfl, rfl, rfl, trivial⟩ rfl ?_
  refine wl_1 (fun x17 h18 => GI h18 ∧ FR [(238, 238, some (92, 97)), (238, 238, some (101, 101)), (238, 238, some (102, 102)), (238, 238, some (103, 104))] h h18 ∧ FR [(238, 238, some (103, 104))] h15 h18 ∧ ((0 ≤ x17 ∧ x17 ≤ 2))) (fun x17 h18 => ((2 : Int) + 1 - x17).toNat) (fun x17 h18 => (21, [(0, .ref 236), (1, vi 3), (2, vi (h 238 103)), (3, vi x17)], [], hp_w h18 cr, b, c)) ?_ 0 h15 ⟨g15, F16, FR.refl, (show (0 ≤ 0 ∧ 0 ≤ 2) by omega)⟩
  intro x17 h18 ⟨g18, F19, u18, f18⟩ I18
  refine wi_iload_n (i := 3) (e := x17) (nx := 22) (r1 := 0) (r2 := 0) (r3 := 0) rfl rfl ?_
  refine wi_aload_n (i := 0) (x := 236) (nx := 23) (r1 := 0) (r2 := 0) (r3 := 0) rfl rfl ?_
  refine wr_gr (k0 := 236) (x := 238) (nx := 26) (r1 := 11) (r2 := 13) (r3 := 0) rfl rfl (by decide) rfl ⟨rfl, rfl⟩ rfl ?_
  refine wi_bipush (n := 102) (nx := 28) (r1 := 0) (r2 := 0) (r3 := 0) rfl (by decide) ?_
  refine wr_ia (k0 := 238) (a := 102) (f := 102) (x := e14) (nx := 29) (r1 := 0) (r2 := 0) (r3 := 0) rfl (by decide) rfl (by omega) (by omega) (by decide) ((u18 238 102 rfl).trans w15) ?_
  refine wi_icmp (cd := .ge) (nx := 32) (r1 := 58) (r2 := 0) (r3 := 0) rfl (by omega) (by omega) (fun (q20 : e14 ≤ x17) => ?_) (fun (q20 : ¬ (e14 ≤ x17)) => ?_)
  ·
    refine wi_aload_n (i := 0) (x := 236) (nx := 59) (r1 := 0) (r2 := 0) (r3 := 0) rfl rfl ?_
    refine wi_iload_n (i := 1) (e := 3) (nx := 60) (r1 := 0) (r2 := 0) (r3 := 0) rfl rfl ?_
    refine wi_iload_n (i := 2) (e := h 238 103) (nx := 61) (r1 := 0) (r2 := 0) (r3 := 0) rfl rfl ?_
    refine wr_V (k0 := 236) (rest := []) (as := [.ref 236, vi 3, vi (h 238 103)]) (nx := 64) (r1 := 280) (r2 := 2) (r3 := 11) rfl rfl rfl (of_decide_eq_true rfl) rfl rfl (by decide) rfl rfl (of_decide_eq_true rfl) (of_decide_eq_true rfl) ?_
    refine wi_aload_n (i := 0) (x := 236) (nx := 1) (r1 := 0) (r2 := 0) (r3 := 0) rfl rfl ?_
    refine wr_gr (k0 := 236) (x := 238) (nx := 4) (r1 := 11) (r2 := 13) (r3 := 0) rfl rfl (by decide) rfl ⟨rfl, rfl⟩ rfl ?_
    refine wi_bipush (n := 74) (nx := 6) (r1 := 0) (r2 := 0) (r3 := 0) rfl (by decide) ?_
    refine wi_bipush (n := 6) (nx := 8) (r1 := 0) (r2 := 0) (r3 := 0) rfl (by decide) ?_
    refine wi_iload_n (i := 1) (e := 3) (nx := 9) (r1 := 0) (r2 := 0) (r3 := 0) rfl rfl ?_
    refine wr_mulL (18) (nx := 10) (r1 := 0) (r2 := 0) (r3 := 0) rfl (by decide) ?_
    refine wr_addL (92) (nx := 11) (r1 := 0) (r2 := 0) (r3 := 0) rfl (by decide) ?_
    refine wi_aload_n (i := 0) (x := 236) (nx := 12) (r1 := 0) (r2 := 0) (r3 := 0) rfl rfl ?_
    refine wr_gr (k0 := 236) (x := 238) (nx := 15) (r1 := 11) (r2 := 13) (r3 := 0) rfl rfl (by decide) rfl ⟨rfl, rfl⟩ rfl ?_
    refine wi_bipush (n := 98) (nx := 17) (r1 := 0) (r2 := 0) (r3 := 0) rfl (by decide) ?_
    refine wi_iload_n (i := 1) (e := 3) (nx := 18) (r1 := 0) (r2 := 0) (r3 := 0) rfl rfl ?_
    refine wr_addL (101) (nx := 19) (r1 := 0) (r2 := 0) (r3 := 0) rfl (by decide) ?_
    refine wr_ia (k0 := 238) (a := 101) (f := 101) (x := h 238 101) (nx := 20) (r1 := 0) (r2 := 0) (r3 := 0) rfl (by decide) rfl (by omega) (by omega) (by decide) ((u18 238 101 rfl).trans (u15 238 101 rfl)) ?_
    refine wr_add (nx := 21) (r1 := 0) (r2 := 0) (r3 := 0) rfl (fun e21 (fe21 : e21 = 92 + (h 238 101)) => ?_)
    refine wi_iload_n (i := 2) (e := h 238 103) (nx := 22) (r1 := 0) (r2 := 0) (r3 := 0) rfl rfl ?_
    obtain ⟨i22, ei22⟩ : ∃ q : Nat, e21 = (q : Int) := ⟨(e21).toNat, by omega⟩
    refine wr_is (k0 := 238) (a := e21) (f := i22) (x := h 238 103) (bl := 0) (bh := 11) (nx := 23) (r1 := 0) (r2 := 0) (r3 := 0) rfl (by decide) rfl (by omega) (by omega) (by decide) g18 (gi_rg 92 6 (fun _ => rfl) (by decide +kernel) (by omega)) (by omega) (fun h23 g23 w23 u23 => ?_)
    have F24 := F19.then rfl (FR.idx (p := 92) (q := 97) u23 (by omega))
    refine wi_aload_n (i := 0) (x := 236) (nx := 24) (r1 := 0) (r2 := 0) (r3 := 0) rfl rfl ?_
    refine wr_gr (k0 := 236) (x := 238) (nx := 27) (r1 := 11) (r2 := 13) (r3 := 0) rfl rfl (by decide) rfl ⟨rfl, rfl⟩ rfl ?_
    refine wi_bipush (n := 98) (nx := 29) (r1 := 0) (r2 := 0) (r3 := 0) rfl (by decide) ?_
    refine wi_iload_n (i := 1) (e := 3) (nx := 30) (r1 := 0) (r2 := 0) (r3 := 0) rfl rfl ?_
    refine wr_addL (101) (nx := 31) (r1 := 0) (r2 := 0) (r3 := 0) rfl (by decide) ?_
    refine wi_dup2 (nx := 32) (r1 := 0) (r2 := 0) (r3 := 0) rfl rfl rfl ?_
    refine wr_ia (k0 := 238) (a := 101) (f := 101) (x := h 238 101) (nx := 33) (r1 := 0) (r2 := 0) (r3 := 0) rfl (by decide) rfl (by omega) (by omega) (by decide) ((u23 238 101 (fn_i (by omega) fn_0)).trans ((u18 238 101 rfl).trans (u15 238 101 rfl))) ?_
    refine wi_iconst (n := 1) (nx := 34) (r1 := 0) (r2 := 0) (r3 := 0) rfl ?_
    refine wr_add (nx := 35) (r1 := 0) (r2 := 0) (r3 := 0) rfl (fun e25 (fe25 : e25 = (h 238 101) + 1) => ?_)
    refine wr_is (k0 := 238) (a := 101) (f := 101) (x := e25) (bl := 0) (bh := 6) (nx := 36) (r1 := 0) (r2 := 0) (r3 := 0) rfl (by decide) rfl (by omega) (by omega) (by decide) g23 rfl (by omega) (fun h26 g26 w26 u26 => ?_)
    have F27 := F24.then rfl u26
    refine wi_return (nx := 37) (r1 := 0) (r2 := 0) (r3 := 0) rfl rfl ?_
    refine wk_n ?_
    refine wi_iload_n (i := 2) (e := h 238 103) (nx := 65) (r1 := 0) (r2 := 0) (r3 := 0) rfl rfl ?_
    refine wi_ireturn (nx := 66) (r1 := 0) (r2 := 0) (r3 := 0) rfl rfl ?_
    have e28 : h26 238 98 = h 238 98 := ((u26 238 98 rfl).trans ((u23 238 98 (fn_i (by omega) fn_0)).trans ((u18 238 98 rfl).trans (u15 238 98 rfl))))
    have e29 : h26 238 99 = h 238 99 := ((u26 238 99 rfl).trans ((u23 238 99 (fn_i (by omega) fn_0)).trans ((u18 238 99 rfl).trans (u15 238 99 rfl))))
    have e30 : h26 238 100 = h 238 100 := ((u26 238 100 rfl).trans ((u23 238 100 (fn_i (by omega) fn_0)).trans ((u18 238 100 rfl).trans (u15 238 100 rfl))))
    have e31 : h26 238 101 = e25 := w26
    have e32 : h26 238 102 = e14 := ((u26 238 102 rfl).trans ((u23 238 102 (fn_i (by omega) fn_0)).trans ((u18 238 102 rfl).trans w15)))
    have e33 : h26 238 106 = h 238 106 := ((u26 238 106 rfl).trans ((u23 238 106 (fn_i (by omega) fn_0)).trans ((u18 238 106 rfl).trans (u15 238 106 rfl))))
    have e34 : h26 238 73 = h 238 73 := ((u26 238 73 rfl).trans ((u23 238 73 (fn_i (by omega) fn_0)).trans ((u18 238 73 rfl).trans (u15 238 73 rfl))))
    have e35 : h26 238 2 = h 238 2 := ((u26 238 2 rfl).trans ((u23 238 2 (fn_i (by omega) fn_0)).trans ((u18 238 2 rfl).trans (u15 238 2 rfl))))
    have e36 : h26 238 119 = h 238 119 := ((u26 238 119 rfl).trans ((u23 238 119 (fn_i (by omega) fn_0)).trans ((u18 238 119 rfl).trans (u15 238 119 rfl))))
    have e37 : h26 238 67 = h 238 67 := ((u26 238 67 rfl).trans ((u23 238 67 (fn_i (by omega) fn_0)).trans ((u18 238 67 rfl).trans (u15 238 67 rfl))))
    have e38 : h26 238 69 = h 238 69 := ((u26 238 69 rfl).trans ((u23 238 69 (fn_i (by omega) fn_0)).trans ((u18 238 69 rfl).trans (u15 238 69 rfl))))
    have e39 : h26 238 5 = h 238 5 := ((u26 238 5 rfl).trans ((u23 238 5 (fn_i (by omega) fn_0)).trans ((u18 238 5 rfl).trans (u15 238 5 rfl))))
    exact k h26 (h 238 103) g26 F27 (by omega) (show (h26 238 98) + (h26 238 99) + (h26 238 100) + (h26 238 101) + (h26 238 102) + (h26 238 106) = (h26 238 73) by omega) (show (h26 238 73) ≤ (h26 238 2) by omega) (show (h26 238 119) ≤ (h26 238 67) by omega) (show (h26 238 69) ≤ (h26 238 5) by omega) (show (h26 238 2) ≤ 12 * (h26 238 5) by omega)
  ·
    refine wi_aload_n (i := 0) (x := 236) (nx := 33) (r1 := 0) (r2 := 0) (r3 := 0) rfl rfl ?_
    refine wr_gr (k0 := 236) (x := 238) (nx := 36) (r1 := 11) (r2 := 13) (r3 := 0) rfl rfl (by decide) rfl ⟨rfl, rfl⟩ rfl ?_
    refine wi_bipush (n := 103) (nx := 38) (r1 := 0) (r2 := 0) (r3 := 0) rfl (by decide) ?_
    refine wi_iload_n (i := 3) (e := x17) (nx := 39) (r1 := 0) (r2 := 0) (r3 := 0) rfl rfl ?_
    refine wr_add (nx := 40) (r1 := 0) (r2 := 0) (r3 := 0) rfl (fun e21 (fe21 : e21 = 103 + x17) => ?_)
    refine wi_aload_n (i := 0) (x := 236) (nx := 41) (r1 := 0) (r2 := 0) (r3 := 0) rfl rfl ?_
    refine wr_gr (k0 := 236) (x := 238) (nx := 44) (r1 := 11) (r2 := 13) (r3 := 0) rfl rfl (by decide) rfl ⟨rfl, rfl⟩ rfl ?_
    refine wi_bipush (n := 103) (nx := 46) (r1 := 0) (r2 := 0) (r3 := 0) rfl (by decide) ?_
    refine wi_iload_n (i := 3) (e := x17) (nx := 47) (r1 := 0) (r2 := 0) (r3 := 0) rfl rfl ?_
    refine wr_add (nx := 48) (r1 := 0) (r2 := 0) (r3 := 0) rfl (fun e22 (fe22 : e22 = 103 + x17) => ?_)
    refine wi_iconst (n := 1) (nx := 49) (r1 := 0) (r2 := 0) (r3 := 0) rfl ?_
    refine wr_add (nx := 50) (r1 := 0) (r2 := 0) (r3 := 0) rfl (fun e23 (fe23 : e23 = e22 + 1) => ?_)
    obtain ⟨i24, ei24⟩ : ∃ q : Nat, e23 = (q : Int) := ⟨(e23).toNat, by omega⟩
    have b25 := gi_b (lo := 0) (hi := 11) g18 238 i24 (gi_rg 104 2 (fun _ => rfl) (by decide +kernel) (by omega))
    refine wr_ia (k0 := 238) (a := e23) (f := i24) (x := h18 238 i24) (nx := 51) (r1 := 0) (r2 := 0) (r3 := 0) rfl (by decide) rfl (by omega) (by omega) (by decide) rfl ?_
    obtain ⟨i26, ei26⟩ : ∃ q : Nat, e21 = (q : Int) := ⟨(e21).toNat, by omega⟩
    refine wr_is (k0 := 238) (a := e21) (f := i26) (x := h18 238 i24) (bl := 0) (bh := 11) (nx := 52) (r1 := 0) (r2 := 0) (r3 := 0) rfl (by decide) rfl (by omega) (by omega) (by decide) g18 (gi_rg 103 2 (fun _ => rfl) (by decide +kernel) (by omega)) (by omega) (fun h27 g27 w27 u27 => ?_)
    have F28 := F19.then rfl (FR.idx (p := 103) (q := 104) u27 (by omega))
    have F29 := u18.then rfl (FR.idx (p := 103) (q := 104) u27 (by omega))
    refine wr_iinc (i := 3) (n := 1) (v := x17) (fun e30 => [(3, vi e30), (0, .ref 236), (1, vi 3), (2, vi (h 238 103))]) (nx := 55) (r1 := 0) (r2 := 0) (r3 := 0) rfl rfl (fun _ => rfl) (fun e30 (fe30 : e30 = x17 + 1) => ?_)
    refine wi_goto (nx := 58) (r1 := 21) (r2 := 0) (r3 := 0) rfl ?_
    refine wp.lo (lo := [(0, .ref 236), (1, vi 3), (2, vi (h 238 103)), (3, vi e30)]) ⟨rfl, rfl, rfl, rfl, trivial⟩ rfl ?_
    exact I18 e30 h27 ⟨g27, F28, F29, (show (0 ≤ e30 ∧ e30 ≤ 2) by omega)⟩ (show ((2 : Int) + 1 - e30).toNat < ((2 : Int) + 1 - x17).toNat by omega)
-- method 284: Model.back(I)I
set_option maxRecDepth 100000 in
set_option maxHeartbeats 100000000 in
theorem ct_284_236 {L : Nat} {xs : Nat → Int32} {d b c : Nat} {h : hp} {cr : Nat → Nat → Option Nat} {Q : hp_Q} (hcr : CR cr)  (g : GI h) (a0 : Int) (q0_ : -2147483648 ≤ a0 ∧ a0 ≤ 2147483647) (pp0 : h 238 98 + h 238 99 + h 238 100 + h 238 101 + h 238 102 + h 238 106 = h 238 73) (pp1 : h 238 73 ≤ h 238 2) (pp2 : h 238 119 ≤ h 238 67) (pp3 : h 238 69 ≤ h 238 5) (pp4 : h 238 2 ≤ 12 * h 238 5) (xq0 : GPS h) (gp0 : GPH h) (k : ∀ (h2 : hp) (z0 : Int) , GI h2 → FR [(236, 236, some (0, 0)), (236, 236, some (22, 22)), (238, 238, some (74, 79)), (238, 238, some (80, 85)), (238, 238, some (86, 91)), (238, 238, some (92, 97)), (238, 238, some (98, 98)), (238, 238, some (99, 99)), (238, 238, some (100, 100)), (238, 238, some (101, 101)), (238, 238, some (102, 102)), (238, 238, some (103, 104)), (242, 242, some (0, 999)), (242, 242, some (1000, 1199))] h h2 → (-1 ≤ z0 ∧ z0 ≤ 11) → (h2 238 98 + h2 238 99 + h2 238 100 + h2 238 101 + h2 238 102 + h2 238 106 = h2 238 73) → (h2 238 73 ≤ h2 238 2) → (h2 238 119 ≤ h2 238 67) → (h2 238 69 ≤ h2 238 5) → (h2 238 2 ≤ 12 * h2 238 5) → (GPS h2) → (GPH h2) → Q (.inl (some (vi z0))) (hp_w h2 cr) b c) : wp (md_xa (L, xs)) (d + 2) 284 (0, [(0, .ref 236), (1, vi a0)], [], hp_w h cr, b, c) Q := by
  have F0 : FR [(236, 236, some (0, 0)), (236, 236, some (22, 22)), (238, 238, some (74, 79)), (238, 238, some (80, 85)), (238, 238, some (86, 91)), (238, 238, some (92, 97)), (238, 238, some (98, 98)), (238, 238, some (99, 99)), (238, 238, some (100, 100)), (238, 238, some (101, 101)), (238, 238, some (102, 102)), (238, 238, some (103, 104)), (242, 242, some (0, 999)), (242, 242, some (1000, 1199))] h h := FR.refl
  have b1 := gi_b (lo := 0) (hi := 6) g 238 98 rfl
  have b2 := gi_b (lo := 0) (hi := 6) g 238 99 rfl
  have b3 := gi_b (lo := 0) (hi := 6) g 238 100 rfl
  have b4 := gi_b (lo := 0) (hi := 6) g 238 101 rfl
  have b5 := gi_b (lo := 0) (hi := 3) g 238 102 rfl
  have b6 := gi_b (lo := 0) (hi := 12) g 238 106 rfl
  have b7 := gi_b (lo := 0) (hi := 12) g 238 73 rfl
  have b8 := gi_b (lo := 0) (hi := 12) g 238 2 rfl
  have b9 := gi_b (lo := 0) (hi := 9999) g 238 119 rfl
  have b10 := gi_b (lo := 0) (hi := 9999) g 238 67 rfl
  have b11 := gi_b (lo := 0) (hi := 9) g 238 69 rfl
  have b12 := gi_b (lo := 0) (hi := 9) g 238 5 rfl
  refine wi_aload_n (i := 0) (x := 236) (nx := 1) (r1 := 0) (r2 := 0) (r3 := 0) rfl rfl ?_
  refine wi_aload_n (i := 0) (x := 236) (nx := 2) (r1 := 0) (r2 := 0) (r3 := 0) rfl rfl ?_
  refine wi_iload_n (i := 1) (e := a0) (nx := 3) (r1 := 0) (r2 := 0) (r3 := 0) rfl rfl ?_
  refine wr_V (k0 := 236) (rest := [.ref 236]) (as := [.ref 236, vi a0]) (nx := 6) (r1 := 242) (r2 := 1) (r3 := 11) rfl rfl rfl (of_decide_eq_true rfl) rfl rfl (by decide) rfl rfl (of_decide_eq_true rfl) (of_decide_eq_true rfl) ?_
  refine wi_iload_n (i := 1) (e := a0) (nx := 1) (r1 := 0) (r2 := 0) (r3 := 0) rfl rfl ?_
  refine wi_i2l (nx := 2) (r1 := 0) (r2 := 0) (r3 := 0) rfl (by omega) ?_
  refine wi_lconst (n := 0) (e := 0) (nx := 3) (r1 := 0) (r2 := 0) (r3 := 0) rfl (by decide) ?_
  refine wi_aload_n (i := 0) (x := 236) (nx := 4) (r1 := 0) (r2 := 0) (r3 := 0) rfl rfl ?_
  refine wr_gr (k0 := 236) (x := 238) (nx := 7) (r1 := 11) (r2 := 13) (r3 := 0) rfl rfl (by decide) rfl ⟨rfl, rfl⟩ rfl ?_
  refine wi_iconst (n := 1) (nx := 8) (r1 := 0) (r2 := 0) (r3 := 0) rfl ?_
  have b13 := gi_b (lo := 0) (hi := 4) g 238 1 rfl
  refine wr_ia (k0 := 238) (a := 1) (f := 1) (x := h 238 1) (nx := 9) (r1 := 0) (r2 := 0) (r3 := 0) rfl (by decide) rfl (by omega) (by omega) (by decide) rfl ?_
  refine wi_iconst (n := 1) (nx := 10) (r1 := 0) (r2 := 0) (r3 := 0) rfl ?_
  refine wr_sub (nx := 11) (r1 := 0) (r2 := 0) (r3 := 0) rfl (fun e14 (fe14 : e14 = (h 238 1) - 1) => ?_)
  refine wi_i2l (nx := 12) (r1 := 0) (r2 := 0) (r3 := 0) rfl (by omega) ?_
  refine wi_S (rest := []) (as := [vl a0, vl 0, vl e14]) (nx := 15) (r1 := 210) (r2 := 19) (r3 := 0) rfl rfl rfl (of_decide_eq_true rfl) rfl rfl (of_decide_eq_true rfl) (of_decide_eq_true rfl) ?_
  refine wi_lload_n (i := 0) (e := a0) (nx := 1) (r1 := 0) (r2 := 0) (r3 := 0) rfl rfl ?_
  refine wi_lload_n (i := 2) (e := 0) (nx := 2) (r1 := 0) (r2 := 0) (r3 := 0) rfl rfl ?_
  refine wi_lcmp (a := a0) (e := 0) (nx := 3) (r1 := 0) (r2 := 0) (r3 := 0) rfl (by omega) (by omega) (fun r15 (fr15 : (r15 = -1 ∧ a0 < 0) ∨ (r15 = 0 ∧ a0 = 0) ∨ (r15 = 1 ∧ 0 < a0)) => ?_)
  refine wi_if (cd := .lt) (nx := 6) (r1 := 17) (r2 := 0) (r3 := 0) rfl (by omega) (fun (q16 : r15 < 0) => ?_) (fun (q16 : ¬ (r15 < 0)) => ?_)
  ·
    refine wi_iconst (n := 0) (nx := 18) (r1 := 0) (r2 := 0) (r3 := 0) rfl ?_
    refine wi_zreturn (nx := 19) (r1 := 0) (r2 := 0) (r3 := 0) rfl rfl (by omega) ?_
    refine wk_i ?_
    refine wi_zreturn (nx := 16) (r1 := 0) (r2 := 0) (r3 := 0) rfl rfl (by omega) ?_
    refine wk_i ?_
    refine wr_V (k0 := 236) (rest := []) (as := [.ref 236, vi 0]) (nx := 9) (r1 := 206) (r2 := 1) (r3 := 11) rfl rfl rfl (of_decide_eq_true rfl) rfl rfl (by decide) rfl rfl (of_decide_eq_true rfl) (of_decide_eq_true rfl) ?_
    refine wi_aload_n (i := 0) (x := 236) (nx := 1) (r1 := 0) (r2 := 0) (r3 := 0) rfl rfl ?_
    refine wi_iload_n (i := 1) (e := 0) (nx := 2) (r1 := 0) (r2 := 0) (r3 := 0) rfl rfl ?_
    refine wi_if (cd := .ne) (nx := 5) (r1 := 9) (r2 := 0) (r3 := 0) rfl (by omega) (fun (q17 : 0 ≠ 0) => by exfalso; omega) (fun (q17 : ¬ (0 ≠ 0)) => ?_)
    refine wi_iconst (n := 1) (nx := 6) (r1 := 0) (r2 := 0) (r3 := 0) rfl ?_
    refine wi_goto (nx := 9) (r1 := 10) (r2 := 0) (r3 := 0) rfl ?_
    refine wi_S (rest := [.ref 236]) (as := [vi 1]) (nx := 13) (r1 := 207) (r2 := 17) (r3 := 0) rfl rfl rfl (of_decide_eq_true rfl) rfl rfl (of_decide_eq_true rfl) (of_decide_eq_true rfl) ?_
    refine wi_iload_n (i := 0) (e := 1) (nx := 1) (r1 := 0) (r2 := 0) (r3 := 0) rfl rfl ?_
    refine wi_if (cd := .eq) (nx := 4) (r1 := 8) (r2 := 0) (r3 := 0) rfl (by omega) (fun (q18 : 1 = 0) => by exfalso; omega) (fun (q18 : ¬ (1 = 0)) => ?_)
    refine wi_iconst (n := 1) (nx := 5) (r1 := 0) (r2 := 0) (r3 := 0) rfl ?_
    refine wi_goto (nx := 8) (r1 := 9) (r2 := 0) (r3 := 0) rfl ?_
    refine wi_ireturn (nx := 10) (r1 := 0) (r2 := 0) (r3 := 0) rfl rfl ?_
    refine wk_i ?_
    refine wr_pf0 (k0 := 236) (x := 1) (bl := 0) (bh := 2) (nx := 16) (r1 := 11) (r2 := 0) (r3 := 0) rfl (by decide) rfl ⟨rfl, rfl⟩ rfl rfl g rfl (by omega) (fun h19 g19 w19 u19 => ?_)
    have F20 := F0.then rfl u19
    refine wi_iload_n (i := 1) (e := 0) (nx := 17) (r1 := 0) (r2 := 0) (r3 := 0) rfl rfl ?_
    refine wi_zreturn (nx := 18) (r1 := 0) (r2 := 0) (r3 := 0) rfl rfl (by omega) ?_
    refine wk_i ?_
    refine wi_if (cd := .ne) (nx := 12) (r1 := 14) (r2 := 0) (r3 := 0) rfl (by omega) (fun (q21 : 0 ≠ 0) => by exfalso; omega) (fun (q21 : ¬ (0 ≠ 0)) => ?_)
    refine wi_iconst (n := 0) (nx := 13) (r1 := 0) (r2 := 0) (r3 := 0) rfl ?_
    refine wi_ireturn (nx := 14) (r1 := 0) (r2 := 0) (r3 := 0) rfl rfl ?_
    have e22 : h19 238 98 = h 238 98 := (u19 238 98 rfl)
    have e23 : h19 238 99 = h 238 99 := (u19 238 99 rfl)
    have e24 : h19 238 100 = h 238 100 := (u19 238 100 rfl)
    have e25 : h19 238 101 = h 238 101 := (u19 238 101 rfl)
    have e26 : h19 238 102 = h 238 102 := (u19 238 102 rfl)
    have e27 : h19 238 106 = h 238 106 := (u19 238 106 rfl)
    have e28 : h19 238 73 = h 238 73 := (u19 238 73 rfl)
    have e29 : h19 238 2 = h 238 2 := (u19 238 2 rfl)
    have e30 : h19 238 119 = h 238 119 := (u19 238 119 rfl)
    have e31 : h19 238 67 = h 238 67 := (u19 238 67 rfl)
    have e32 : h19 238 69 = h 238 69 := (u19 238 69 rfl)
    have e33 : h19 238 5 = h 238 5 := (u19 238 5 rfl)
    have gs34 := GPS.fr u19 rfl xq0
    have gp35 := GPH.fr u19 rfl gp0
    exact k h19 0 g19 F20 (by omega) (show (h19 238 98) + (h19 238 99) + (h19 238 100) + (h19 238 101) + (h19 238 102) + (h19 238 106) = (h19 238 73) by omega) (show (h19 238 73) ≤ (h19 238 2) by omega) (show (h19 238 119) ≤ (h19 238 67) by omega) (show (h19 238 69) ≤ (h19 238 5) by omega) (show (h19 238 2) ≤ 12 * (h19 238 5) by omega) gs34 gp35
  ·
    refine wi_lload_n (i := 0) (e := a0) (nx := 7) (r1 := 0) (r2 := 0) (r3 := 0) rfl rfl ?_
    refine wi_lload (i := 4) (e := e14) (nx := 9) (r1 := 0) (r2 := 0) (r3 := 0) rfl rfl ?_
    refine wi_lcmp (a := a0) (e := e14) (nx := 10) (r1 := 0) (r2 := 0) (r3 := 0) rfl (by omega) (by omega) (fun r17 (fr17 : (r17 = -1 ∧ a0 < e14) ∨ (r17 = 0 ∧ a0 = e14) ∨ (r17 = 1 ∧ e14 < a0)) => ?_)
    refine wi_if (cd := .gt) (nx := 13) (r1 := 17) (r2 := 0) (r3 := 0) rfl (by omega) (fun (q18 : 0 < r17) => ?_) (fun (q18 : ¬ (0 < r17)) => ?_)
    ·
      refine wi_iconst (n := 0) (nx := 18) (r1 := 0) (r2 := 0) (r3 := 0) rfl ?_
      refine wi_zreturn (nx := 19) (r1 := 0) (r2 := 0) (r3 := 0) rfl rfl (by omega) ?_
      refine wk_i ?_
      refine wi_zreturn (nx := 16) (r1 := 0) (r2 := 0) (r3 := 0) rfl rfl (by omega) ?_
      refine wk_i ?_
      refine wr_V (k0 := 236) (rest := []) (as := [.ref 236, vi 0]) (nx := 9) (r1 := 206) (r2 := 1) (r3 := 11) rfl rfl rfl (of_decide_eq_true rfl) rfl rfl (by decide) rfl rfl (of_decide_eq_true rfl) (of_decide_eq_true rfl) ?_
      refine wi_aload_n (i := 0) (x := 236) (nx := 1) (r1 := 0) (r2 := 0) (r3 := 0) rfl rfl ?_
      refine wi_iload_n (i := 1) (e := 0) (nx := 2) (r1 := 0) (r2 := 0) (r3 := 0) rfl rfl ?_
      refine wi_if (cd := .ne) (nx := 5) (r1 := 9) (r2 := 0) (r3 := 0) rfl (by omega) (fun (q19 : 0 ≠ 0) => by exfalso; omega) (fun (q19 : ¬ (0 ≠ 0)) => ?_)
      refine wi_iconst (n := 1) (nx := 6) (r1 := 0) (r2 := 0) (r3 := 0) rfl ?_
      refine wi_goto (nx := 9) (r1 := 10) (r2 := 0) (r3 := 0) rfl ?_
      refine wi_S (rest := [.ref 236]) (as := [vi 1]) (nx := 13) (r1 := 207) (r2 := 17) (r3 := 0) rfl rfl rfl (of_decide_eq_true rfl) rfl rfl (of_decide_eq_true rfl) (of_decide_eq_true rfl) ?_
      refine wi_iload_n (i := 0) (e := 1) (nx := 1) (r1 := 0) (r2 := 0) (r3 := 0) rfl rfl ?_
      refine wi_if (cd := .eq) (nx := 4) (r1 := 8) (r2 := 0) (r3 := 0) rfl (by omega) (fun (q20 : 1 = 0) => by exfalso; omega) (fun (q20 : ¬ (1 = 0)) => ?_)
      refine wi_iconst (n := 1) (nx := 5) (r1 := 0) (r2 := 0) (r3 := 0) rfl ?_
      refine wi_goto (nx := 8) (r1 := 9) (r2 := 0) (r3 := 0) rfl ?_
      refine wi_ireturn (nx := 10) (r1 := 0) (r2 := 0) (r3 := 0) rfl rfl ?_
      refine wk_i ?_
      refine wr_pf0 (k0 := 236) (x := 1) (bl := 0) (bh := 2) (nx := 16) (r1 := 11) (r2 := 0) (r3 := 0) rfl (by decide) rfl ⟨rfl, rfl⟩ rfl rfl g rfl (by omega) (fun h21 g21 w21 u21 => ?_)
      have F22 := F0.then rfl u21
      refine wi_iload_n (i := 1) (e := 0) (nx := 17) (r1 := 0) (r2 := 0) (r3 := 0) rfl rfl ?_
      refine wi_zreturn (nx := 18) (r1 := 0) (r2 := 0) (r3 := 0) rfl rfl (by omega) ?_
      refine wk_i ?_
      refine wi_if (cd := .ne) (nx := 12) (r1 := 14) (r2 := 0) (r3 := 0) rfl (by omega) (fun (q23 : 0 ≠ 0) => by exfalso; omega) (fun (q23 : ¬ (0 ≠ 0)) => ?_)
      refine wi_iconst (n := 0) (nx := 13) (r1 := 0) (r2 := 0) (r3 := 0) rfl ?_
      refine wi_ireturn (nx := 14) (r1 := 0) (r2 := 0) (r3 := 0) rfl rfl ?_
      have e24 : h21 238 98 = h 238 98 := (u21 238 98 rfl)
      have e25 : h21 238 99 = h 238 99 := (u21 238 99 rfl)
      have e26 : h21 238 100 = h 238 100 := (u21 238 100 rfl)
      have e27 : h21 238 101 = h 238 101 := (u21 238 101 rfl)
      have e28 : h21 238 102 = h 238 102 := (u21 238 102 rfl)
      have e29 : h21 238 106 = h 238 106 := (u21 238 106 rfl)
      have e30 : h21 238 73 = h 238 73 := (u21 238 73 rfl)
      have e31 : h21 238 2 = h 238 2 := (u21 238 2 rfl)
      have e32 : h21 238 119 = h 238 119 := (u21 238 119 rfl)
      have e33 : h21 238 67 = h 238 67 := (u21 238 67 rfl)
      have e34 : h21 238 69 = h 238 69 := (u21 238 69 rfl)
      have e35 : h21 238 5 = h 238 5 := (u21 238 5 rfl)
      have gs36 := GPS.fr u21 rfl xq0
      have gp37 := GPH.fr u21 rfl gp0
      exact k h21 0 g21 F22 (by omega) (show (h21 238 98) + (h21 238 99) + (h21 238 100) + (h21 238 101) + (h21 238 102) + (h21 238 106) = (h21 238 73) by omega) (show (h21 238 73) ≤ (h21 238 2) by omega) (show (h21 238 119) ≤ (h21 238 67) by omega) (show (h21 238 69) ≤ (h21 238 5) by omega) (show (h21 238 2) ≤ 12 * (h21 238 5) by omega) gs36 gp37
    ·
      refine wi_iconst (n := 1) (nx := 14) (r1 := 0) (r2 := 0) (r3 := 0) rfl ?_
      refine wi_goto (nx := 17) (r1 := 18) (r2 := 0) (r3 := 0) rfl ?_
      refine wi_zreturn (nx := 19) (r1 := 0) (r2 := 0) (r3 := 0) rfl rfl (by omega) ?_
      refine wk_i ?_
      refine wi_zreturn (nx := 16) (r1 := 0) (r2 := 0) (r3 := 0) rfl rfl (by omega) ?_
      refine wk_i ?_
      refine wr_V (k0 := 236) (rest := []) (as := [.ref 236, vi 1]) (nx := 9) (r1 := 206) (r2 := 1) (r3 := 11) rfl rfl rfl (of_decide_eq_true rfl) rfl rfl (by decide) rfl rfl (of_decide_eq_true rfl) (of_decide_eq_true rfl) ?_
      refine wi_aload_n (i := 0) (x := 236) (nx := 1) (r1 := 0) (r2 := 0) (r3 := 0) rfl rfl ?_
      refine wi_iload_n (i := 1) (e := 1) (nx := 2) (r1 := 0) (r2 := 0) (r3 := 0) rfl rfl ?_
      refine wi_if (cd := .ne) (nx := 5) (r1 := 9) (r2 := 0) (r3 := 0) rfl (by omega) (fun (q19 : 1 ≠ 0) => ?_) (fun (q19 : ¬ (1 ≠ 0)) => by exfalso; omega)
      refine wi_iconst (n := 0) (nx := 10) (r1 := 0) (r2 := 0) (r3 := 0) rfl ?_
      refine wi_S (rest := [.ref 236]) (as := [vi 0]) (nx := 13) (r1 := 207) (r2 := 17) (r3 := 0) rfl rfl rfl (of_decide_eq_true rfl) rfl rfl (of_decide_eq_true rfl) (of_decide_eq_true rfl) ?_
      refine wi_iload_n (i := 0) (e := 0) (nx := 1) (r1 := 0) (r2 := 0) (r3 := 0) rfl rfl ?_
      refine wi_if (cd := .eq) (nx := 4) (r1 := 8) (r2 := 0) (r3 := 0) rfl (by omega) (fun (q20 : 0 = 0) => ?_) (fun (q20 : ¬ (0 = 0)) => by exfalso; omega)
      refine wi_iconst (n := 0) (nx := 9) (r1 := 0) (r2 := 0) (r3 := 0) rfl ?_
      refine wi_ireturn (nx := 10) (r1 := 0) (r2 := 0) (r3 := 0) rfl rfl ?_
      refine wk_i ?_
      refine wr_pf0 (k0 := 236) (x := 0) (bl := 0) (bh := 2) (nx := 16) (r1 := 11) (r2 := 0) (r3 := 0) rfl (by decide) rfl ⟨rfl, rfl⟩ rfl rfl g rfl (by omega) (fun h21 g21 w21 u21 => ?_)
      have F22 := F0.then rfl u21
      refine wi_iload_n (i := 1) (e := 1) (nx := 17) (r1 := 0) (r2 := 0) (r3 := 0) rfl rfl ?_
      refine wi_zreturn (nx := 18) (r1 := 0) (r2 := 0) (r3 := 0) rfl rfl (by omega) ?_
      refine wk_i ?_
      refine wi_if (cd := .ne) (nx := 12) (r1 := 14) (r2 := 0) (r3 := 0) rfl (by omega) (fun (q23 : 1 ≠ 0) => ?_) (fun (q23 : ¬ (1 ≠ 0)) => by exfalso; omega)
      refine wi_aload_n (i := 0) (x := 236) (nx := 15) (r1 := 0) (r2 := 0) (r3 := 0) rfl rfl ?_
      refine wr_V (k0 := 236) (rest := []) (as := [.ref 236]) (nx := 18) (r1 := 285) (r2 := 0) (r3 := 11) rfl rfl rfl (of_decide_eq_true rfl) rfl rfl (by decide) rfl rfl (of_decide_eq_true rfl) (of_decide_eq_true rfl) ?_
      refine wi_aload_n (i := 0) (x := 236) (nx := 1) (r1 := 0) (r2 := 0) (r3 := 0) rfl rfl ?_
      refine wr_gr (k0 := 236) (x := 238) (nx := 4) (r1 := 11) (r2 := 13) (r3 := 0) rfl rfl (by decide) rfl ⟨rfl, rfl⟩ rfl ?_
      refine wi_bipush (n := 102) (nx := 6) (r1 := 0) (r2 := 0) (r3 := 0) rfl (by decide) ?_
      refine wr_ia (k0 := 238) (a := 102) (f := 102) (x := h 238 102) (nx := 7) (r1 := 0) (r2 := 0) (r3 := 0) rfl (by decide) rfl (by omega) (by omega) (by decide) (u21 238 102 rfl) ?_
      refine wi_if (cd := .le) (nx := 10) (r1 := 39) (r2 := 0) (r3 := 0) rfl (by omega) (fun (q24 : (h 238 102) ≤ 0) => ?_) (fun (q24 : ¬ ((h 238 102) ≤ 0)) => ?_)
      ·
        refine wi_iconst (n := 0) (nx := 40) (r1 := 0) (r2 := 0) (r3 := 0) rfl ?_
        refine wi_zreturn (nx := 41) (r1 := 0) (r2 := 0) (r3 := 0) rfl rfl (by omega) ?_
        refine wk_i ?_
        refine wi_if (cd := .eq) (nx := 21) (r1 := 29) (r2 := 0) (r3 := 0) rfl (by omega) (fun (q25 : 0 = 0) => ?_) (fun (q25 : ¬ (0 = 0)) => by exfalso; omega)
        refine wi_iconst (n := (-1)) (nx := 30) (r1 := 0) (r2 := 0) (r3 := 0) rfl ?_
        refine wi_ireturn (nx := 31) (r1 := 0) (r2 := 0) (r3 := 0) rfl rfl ?_
        have e26 : h21 238 98 = h 238 98 := (u21 238 98 rfl)
        have e27 : h21 238 99 = h 238 99 := (u21 238 99 rfl)
        have e28 : h21 238 100 = h 238 100 := (u21 238 100 rfl)
        have e29 : h21 238 101 = h 238 101 := (u21 238 101 rfl)
        have e30 : h21 238 102 = h 238 102 := (u21 238 102 rfl)
        have e31 : h21 238 106 = h 238 106 := (u21 238 106 rfl)
        have e32 : h21 238 73 = h 238 73 := (u21 238 73 rfl)
        have e33 : h21 238 2 = h 238 2 := (u21 238 2 rfl)
        have e34 : h21 238 119 = h 238 119 := (u21 238 119 rfl)
        have e35 : h21 238 67 = h 238 67 := (u21 238 67 rfl)
        have e36 : h21 238 69 = h 238 69 := (u21 238 69 rfl)
        have e37 : h21 238 5 = h 238 5 := (u21 238 5 rfl)
        have gs38 := GPS.fr u21 rfl xq0
        have gp39 := GPH.fr u21 rfl gp0
        exact k h21 (-1) g21 F22 (by omega) (show (h21 238 98) + (h21 238 99) + (h21 238 100) + (h21 238 101) + (h21 238 102) + (h21 238 106) = (h21 238 73) by omega) (show (h21 238 73) ≤ (h21 238 2) by omega) (show (h21 238 119) ≤ (h21 238 67) by omega) (show (h21 238 69) ≤ (h21 238 5) by omega) (show (h21 238 2) ≤ 12 * (h21 238 5) by omega) gs38 gp39
      ·
        refine wi_aload_n (i := 0) (x := 236) (nx := 11) (r1 := 0) (r2 := 0) (r3 := 0) rfl rfl ?_
        refine wr_gr (k0 := 236) (x := 238) (nx := 14) (r1 := 11) (r2 := 13) (r3 := 0) rfl rfl (by decide) rfl ⟨rfl, rfl⟩ rfl ?_
        refine wi_bipush (n := 67) (nx := 16) (r1 := 0) (r2 := 0) (r3 := 0) rfl (by decide) ?_
        refine wr_ia (k0 := 238) (a := 67) (f := 67) (x := h 238 67) (nx := 17) (r1 := 0) (r2 := 0) (r3 := 0) rfl (by decide) rfl (by omega) (by omega) (by decide) (u21 238 67 rfl) ?_
        refine wi_aload_n (i := 0) (x := 236) (nx := 18) (r1 := 0) (r2 := 0) (r3 := 0) rfl rfl ?_
        refine wr_gr (k0 := 236) (x := 238) (nx := 21) (r1 := 11) (r2 := 13) (r3 := 0) rfl rfl (by decide) rfl ⟨rfl, rfl⟩ rfl ?_
        refine wi_bipush (n := 55) (nx := 23) (r1 := 0) (r2 := 0) (r3 := 0) rfl (by decide) ?_
        refine wi_aload_n (i := 0) (x := 236) (nx := 24) (r1 := 0) (r2 := 0) (r3 := 0) rfl rfl ?_
        refine wr_gr (k0 := 236) (x := 238) (nx := 27) (r1 := 11) (r2 := 13) (r3 := 0) rfl rfl (by decide) rfl ⟨rfl, rfl⟩ rfl ?_
        refine wi_bipush (n := 103) (nx := 29) (r1 := 0) (r2 := 0) (r3 := 0) rfl (by decide) ?_
        have b25 := gi_b (lo := 0) (hi := 11) g 238 103 rfl
        refine wr_ia (k0 := 238) (a := 103) (f := 103) (x := h 238 103) (nx := 30) (r1 := 0) (r2 := 0) (r3 := 0) rfl (by decide) rfl (by omega) (by omega) (by decide) (u21 238 103 rfl) ?_
        refine wr_add (nx := 31) (r1 := 0) (r2 := 0) (r3 := 0) rfl (fun e26 (fe26 : e26 = 55 + (h 238 103)) => ?_)
        obtain ⟨i27, ei27⟩ : ∃ q : Nat, e26 = (q : Int) := ⟨(e26).toNat, by omega⟩
        have b28 := gi_b (lo := 0) (hi := 20000) g 238 i27 (gi_rg 55 12 (fun _ => rfl) (by decide +kernel) (by omega))
        refine wr_ia (k0 := 238) (a := e26) (f := i27) (x := h 238 i27) (nx := 32) (r1 := 0) (r2 := 0) (r3 := 0) rfl (by decide) rfl (by omega) (by omega) (by decide) (u21 238 i27 (fn_a (by omega) fn_0)) ?_
        refine wi_icmp (cd := .lt) (nx := 35) (r1 := 39) (r2 := 0) (r3 := 0) rfl (by omega) (by omega) (fun (q29 : (h 238 67) < (h 238 i27)) => ?_) (fun (q29 : ¬ ((h 238 67) < (h 238 i27))) => ?_)
        ·
          refine wi_iconst (n := 0) (nx := 40) (r1 := 0) (r2 := 0) (r3 := 0) rfl ?_
          refine wi_zreturn (nx := 41) (r1 := 0) (r2 := 0) (r3 := 0) rfl rfl (by omega) ?_
          refine wk_i ?_
          refine wi_if (cd := .eq) (nx := 21) (r1 := 29) (r2 := 0) (r3 := 0) rfl (by omega) (fun (q30 : 0 = 0) => ?_) (fun (q30 : ¬ (0 = 0)) => by exfalso; omega)
          refine wi_iconst (n := (-1)) (nx := 30) (r1 := 0) (r2 := 0) (r3 := 0) rfl ?_
          refine wi_ireturn (nx := 31) (r1 := 0) (r2 := 0) (r3 := 0) rfl rfl ?_
          have e31 : h21 238 98 = h 238 98 := (u21 238 98 rfl)
          have e32 : h21 238 99 = h 238 99 := (u21 238 99 rfl)
          have e33 : h21 238 100 = h 238 100 := (u21 238 100 rfl)
          have e34 : h21 238 101 = h 238 101 := (u21 238 101 rfl)
          have e35 : h21 238 102 = h 238 102 := (u21 238 102 rfl)
          have e36 : h21 238 106 = h 238 106 := (u21 238 106 rfl)
          have e37 : h21 238 73 = h 238 73 := (u21 238 73 rfl)
          have e38 : h21 238 2 = h 238 2 := (u21 238 2 rfl)
          have e39 : h21 238 119 = h 238 119 := (u21 238 119 rfl)
          have e40 : h21 238 67 = h 238 67 := (u21 238 67 rfl)
          have e41 : h21 238 69 = h 238 69 := (u21 238 69 rfl)
          have e42 : h21 238 5 = h 238 5 := (u21 238 5 rfl)
          have gs43 := GPS.fr u21 rfl xq0
          have gp44 := GPH.fr u21 rfl gp0
          exact k h21 (-1) g21 F22 (by omega) (show (h21 238 98) + (h21 238 99) + (h21 238 100) + (h21 238 101) + (h21 238 102) + (h21 238 106) = (h21 238 73) by omega) (show (h21 238 73) ≤ (h21 238 2) by omega) (show (h21 238 119) ≤ (h21 238 67) by omega) (show (h21 238 69) ≤ (h21 238 5) by omega) (show (h21 238 2) ≤ 12 * (h21 238 5) by omega) gs43 gp44
        ·
          refine wi_iconst (n := 1) (nx := 36) (r1 := 0) (r2 := 0) (r3 := 0) rfl ?_
          refine wi_goto (nx := 39) (r1 := 40) (r2 := 0) (r3 := 0) rfl ?_
          refine wi_zreturn (nx := 41) (r1 := 0) (r2 := 0) (r3 := 0) rfl rfl (by omega) ?_
          refine wk_i ?_
          refine wi_if (cd := .eq) (nx := 21) (r1 := 29) (r2 := 0) (r3 := 0) rfl (by omega) (fun (q30 : 1 = 0) => by exfalso; omega) (fun (q30 : ¬ (1 = 0)) => ?_)
          refine wi_aload_n (i := 0) (x := 236) (nx := 22) (r1 := 0) (r2 := 0) (r3 := 0) rfl rfl ?_
          refine wi_iload_n (i := 1) (e := a0) (nx := 23) (r1 := 0) (r2 := 0) (r3 := 0) rfl rfl ?_
          rcases (show a0 = 0 ∨ a0 = 1 ∨ a0 = 2 ∨ a0 = 3 by omega) with q31 | q31 | q31 | q31
          ·
            rw [q31]
            refine wr_V (k0 := 236) (rest := []) (as := [.ref 236, vi 0]) (nx := 26) (r1 := 277) (r2 := 1) (r3 := 11) rfl rfl rfl (of_decide_eq_true rfl) rfl rfl (by decide) rfl rfl (of_decide_eq_true rfl) (of_decide_eq_true rfl) ?_
            refine wi_aload_n (i := 0) (x := 236) (nx := 1) (r1 := 0) (r2 := 0) (r3 := 0) rfl rfl ?_
            refine wr_gr (k0 := 236) (x := 238) (nx := 4) (r1 := 11) (r2 := 13) (r3 := 0) rfl rfl (by decide) rfl ⟨rfl, rfl⟩ rfl ?_
            refine wi_bipush (n := 98) (nx := 6) (r1 := 0) (r2 := 0) (r3 := 0) rfl (by decide) ?_
            refine wi_iload_n (i := 1) (e := 0) (nx := 7) (r1 := 0) (r2 := 0) (r3 := 0) rfl rfl ?_
            refine wr_addL (98) (nx := 8) (r1 := 0) (r2 := 0) (r3 := 0) rfl (by decide) ?_
            refine wr_ia (k0 := 238) (a := 98) (f := 98) (x := h 238 98) (nx := 9) (r1 := 0) (r2 := 0) (r3 := 0) rfl (by decide) rfl (by omega) (by omega) (by decide) (u21 238 98 rfl) ?_
            refine wi_aload_n (i := 0) (x := 236) (nx := 10) (r1 := 0) (r2 := 0) (r3 := 0) rfl rfl ?_
            refine wr_gr (k0 := 236) (x := 238) (nx := 13) (r1 := 11) (r2 := 13) (r3 := 0) rfl rfl (by decide) rfl ⟨rfl, rfl⟩ rfl ?_
            refine wi_bipush (n := 15) (nx := 15) (r1 := 0) (r2 := 0) (r3 := 0) rfl (by decide) ?_
            refine wi_iload_n (i := 1) (e := 0) (nx := 16) (r1 := 0) (r2 := 0) (r3 := 0) rfl rfl ?_
            refine wr_addL (15) (nx := 17) (r1 := 0) (r2 := 0) (r3 := 0) rfl (by decide) ?_
            have b32 := gi_b (lo := 0) (hi := 6) g 238 15 rfl
            refine wr_ia (k0 := 238) (a := 15) (f := 15) (x := h 238 15) (nx := 18) (r1 := 0) (r2 := 0) (r3 := 0) rfl (by decide) rfl (by omega) (by omega) (by decide) (u21 238 15 rfl) ?_
            refine wi_icmp (cd := .ge) (nx := 21) (r1 := 25) (r2 := 0) (r3 := 0) rfl (by omega) (by omega) (fun (q33 : (h 238 15) ≤ (h 238 98)) => ?_) (fun (q33 : ¬ ((h 238 15) ≤ (h 238 98))) => ?_)
            ·
              refine wi_iconst (n := 0) (nx := 26) (r1 := 0) (r2 := 0) (r3 := 0) rfl ?_
              refine wi_zreturn (nx := 27) (r1 := 0) (r2 := 0) (r3 := 0) rfl rfl (by omega) ?_
              refine wk_i ?_
              refine wi_if (cd := .ne) (nx := 29) (r1 := 31) (r2 := 0) (r3 := 0) rfl (by omega) (fun (q34 : 0 ≠ 0) => by exfalso; omega) (fun (q34 : ¬ (0 ≠ 0)) => ?_)
              refine wi_iconst (n := (-1)) (nx := 30) (r1 := 0) (r2 := 0) (r3 := 0) rfl ?_
              refine wi_ireturn (nx := 31) (r1 := 0) (r2 := 0) (r3 := 0) rfl rfl ?_
              have e35 : h21 238 98 = h 238 98 := (u21 238 98 rfl)
              have e36 : h21 238 99 = h 238 99 := (u21 238 99 rfl)
              have e37 : h21 238 100 = h 238 100 := (u21 238 100 rfl)
              have e38 : h21 238 101 = h 238 101 := (u21 238 101 rfl)
              have e39 : h21 238 102 = h 238 102 := (u21 238 102 rfl)
              have e40 : h21 238 106 = h 238 106 := (u21 238 106 rfl)
              have e41 : h21 238 73 = h 238 73 := (u21 238 73 rfl)
              have e42 : h21 238 2 = h 238 2 := (u21 238 2 rfl)
              have e43 : h21 238 119 = h 238 119 := (u21 238 119 rfl)
              have e44 : h21 238 67 = h 238 67 := (u21 238 67 rfl)
              have e45 : h21 238 69 = h 238 69 := (u21 238 69 rfl)
              have e46 : h21 238 5 = h 238 5 := (u21 238 5 rfl)
              have gs47 := GPS.fr u21 rfl xq0
              have gp48 := GPH.fr u21 rfl gp0
              exact k h21 (-1) g21 F22 (by omega) (show (h21 238 98) + (h21 238 99) + (h21 238 100) + (h21 238 101) + (h21 238 102) + (h21 238 106) = (h21 238 73) by omega) (show (h21 238 73) ≤ (h21 238 2) by omega) (show (h21 238 119) ≤ (h21 238 67) by omega) (show (h21 238 69) ≤ (h21 238 5) by omega) (show (h21 238 2) ≤ 12 * (h21 238 5) by omega) gs47 gp48
            ·
              refine wi_iconst (n := 1) (nx := 22) (r1 := 0) (r2 := 0) (r3 := 0) rfl ?_
              refine wi_goto (nx := 25) (r1 := 26) (r2 := 0) (r3 := 0) rfl ?_
              refine wi_zreturn (nx := 27) (r1 := 0) (r2 := 0) (r3 := 0) rfl rfl (by omega) ?_
              refine wk_i ?_
              refine wi_if (cd := .ne) (nx := 29) (r1 := 31) (r2 := 0) (r3 := 0) rfl (by omega) (fun (q34 : 1 ≠ 0) => ?_) (fun (q34 : ¬ (1 ≠ 0)) => by exfalso; omega)
              refine wi_aload_n (i := 0) (x := 236) (nx := 32) (r1 := 0) (r2 := 0) (r3 := 0) rfl rfl ?_
              refine wr_V (k0 := 236) (rest := []) (as := [.ref 236]) (nx := 35) (r1 := 278) (r2 := 0) (r3 := 11) rfl rfl rfl (of_decide_eq_true rfl) rfl rfl (by decide) rfl rfl (of_decide_eq_true rfl) (of_decide_eq_true rfl) ?_
              have e36 : h21 238 98 = h 238 98 := (u21 238 98 rfl)
              have e37 : h21 238 99 = h 238 99 := (u21 238 99 rfl)
              have e38 : h21 238 100 = h 238 100 := (u21 238 100 rfl)
              have e39 : h21 238 101 = h 238 101 := (u21 238 101 rfl)
              have e40 : h21 238 102 = h 238 102 := (u21 238 102 rfl)
              have e41 : h21 238 106 = h 238 106 := (u21 238 106 rfl)
              have e42 : h21 238 73 = h 238 73 := (u21 238 73 rfl)
              have e43 : h21 238 2 = h 238 2 := (u21 238 2 rfl)
              have e44 : h21 238 119 = h 238 119 := (u21 238 119 rfl)
              have e45 : h21 238 67 = h 238 67 := (u21 238 67 rfl)
              have e46 : h21 238 69 = h 238 69 := (u21 238 69 rfl)
              have e47 : h21 238 5 = h 238 5 := (u21 238 5 rfl)
              have gs48 := GPS.fr u21 rfl xq0
              have gp49 := GPH.fr u21 rfl gp0
              refine ct_278_236 hcr  g21   (show (h21 238 98) + (h21 238 99) + (h21 238 100) + (h21 238 101) + (h21 238 102) + (h21 238 106) = (h21 238 73) by omega) (show (h21 238 73) ≤ (h21 238 2) by omega) (show (h21 238 119) ≤ (h21 238 67) by omega) (show (h21 238 69) ≤ (h21 238 5) by omega) (show (h21 238 2) ≤ 12 * (h21 238 5) by omega) gs48 gp49 (fun h35 g35 u35 (p35_0 : 1 ≤ (h35 236 22)) y35_0 y35_1 => ?_)
              have F50 := F22.then (by decide +kernel) u35
              have b51 := gi_b (lo := 0) (hi := 6) g35 236 22 rfl
              refine wk_n ?_
              refine wi_aload_n (i := 0) (x := 236) (nx := 36) (r1 := 0) (r2 := 0) (r3 := 0) rfl rfl ?_
              refine wi_iload_n (i := 1) (e := 0) (nx := 37) (r1 := 0) (r2 := 0) (r3 := 0) rfl rfl ?_
              refine wr_V (k0 := 236) (rest := []) (as := [.ref 236, vi 0]) (nx := 40) (r1 := 286) (r2 := 1) (r3 := 11) rfl rfl rfl (of_decide_eq_true rfl) rfl rfl (by decide) rfl rfl (of_decide_eq_true rfl) (of_decide_eq_true rfl) ?_
              have e53 : h35 238 98 = h 238 98 := ((u35 238 98 rfl).trans (u21 238 98 rfl))
              have e54 : h35 238 99 = h 238 99 := ((u35 238 99 rfl).trans (u21 238 99 rfl))
              have e55 : h35 238 100 = h 238 100 := ((u35 238 100 rfl).trans (u21 238 100 rfl))
              have e56 : h35 238 101 = h 238 101 := ((u35 238 101 rfl).trans (u21 238 101 rfl))
              have e57 : h35 238 102 = h 238 102 := ((u35 238 102 rfl).trans (u21 238 102 rfl))
              have e58 : h35 238 106 = h 238 106 := ((u35 238 106 rfl).trans (u21 238 106 rfl))
              have e59 : h35 238 73 = h 238 73 := ((u35 238 73 rfl).trans (u21 238 73 rfl))
              have e60 : h35 238 2 = h 238 2 := ((u35 238 2 rfl).trans (u21 238 2 rfl))
              have e61 : h35 238 119 = h 238 119 := ((u35 238 119 rfl).trans (u21 238 119 rfl))
              have e62 : h35 238 67 = h 238 67 := ((u35 238 67 rfl).trans (u21 238 67 rfl))
              have e63 : h35 238 69 = h 238 69 := ((u35 238 69 rfl).trans (u21 238 69 rfl))
              have e64 : h35 238 5 = h 238 5 := ((u35 238 5 rfl).trans (u21 238 5 rfl))
              refine ct_286_236_L0 hcr  g35   (show (h35 238 98) + (h35 238 99) + (h35 238 100) + (h35 238 101) + (h35 238 102) + (h35 238 106) = (h35 238 73) by omega) (show (h35 238 73) ≤ (h35 238 2) by omega) (show (h35 238 119) ≤ (h35 238 67) by omega) (show (h35 238 69) ≤ (h35 238 5) by omega) (show (h35 238 2) ≤ 12 * (h35 238 5) by omega) (show 1 ≤ (h35 238 102) by omega) (show (h35 238 98) ≤ 5 by omega) (fun h52 z65 g52 u52 (fz65 : 0 ≤ z65 ∧ z65 ≤ 11) (p52_0 : (h52 238 98) + (h52 238 99) + (h52 238 100) + (h52 238 101) + (h52 238 102) + (h52 238 106) = (h52 238 73)) (p52_1 : (h52 238 73) ≤ (h52 238 2)) (p52_2 : (h52 238 119) ≤ (h52 238 67)) (p52_3 : (h52 238 69) ≤ (h52 238 5)) (p52_4 : (h52 238 2) ≤ 12 * (h52 238 5)) => ?_)
              have F66 := F50.then (by decide +kernel) u52
              have b67 := gi_b (lo := 0) (hi := 6) g52 238 98 rfl
              have e68 : h52 238 99 = h 238 99 := ((u52 238 99 rfl).trans ((u35 238 99 rfl).trans (u21 238 99 rfl)))
              have e69 : h52 238 100 = h 238 100 := ((u52 238 100 rfl).trans ((u35 238 100 rfl).trans (u21 238 100 rfl)))
              have e70 : h52 238 101 = h 238 101 := ((u52 238 101 rfl).trans ((u35 238 101 rfl).trans (u21 238 101 rfl)))
              have b71 := gi_b (lo := 0) (hi := 3) g52 238 102 rfl
              have e72 : h52 238 106 = h 238 106 := ((u52 238 106 rfl).trans ((u35 238 106 rfl).trans (u21 238 106 rfl)))
              have e73 : h52 238 73 = h 238 73 := ((u52 238 73 rfl).trans ((u35 238 73 rfl).trans (u21 238 73 rfl)))
              have e74 : h52 238 2 = h 238 2 := ((u52 238 2 rfl).trans ((u35 238 2 rfl).trans (u21 238 2 rfl)))
              have e75 : h52 238 119 = h 238 119 := ((u52 238 119 rfl).trans ((u35 238 119 rfl).trans (u21 238 119 rfl)))
              have e76 : h52 238 67 = h 238 67 := ((u52 238 67 rfl).trans ((u35 238 67 rfl).trans (u21 238 67 rfl)))
              have e77 : h52 238 69 = h 238 69 := ((u52 238 69 rfl).trans ((u35 238 69 rfl).trans (u21 238 69 rfl)))
              have e78 : h52 238 5 = h 238 5 := ((u52 238 5 rfl).trans ((u35 238 5 rfl).trans (u21 238 5 rfl)))
              refine wk_i ?_
              refine wi_ireturn (nx := 41) (r1 := 0) (r2 := 0) (r3 := 0) rfl rfl ?_
              have gs79 := GPS.fr u52 rfl y35_0
              have gp80 := GPH.fr u52 rfl y35_1
              exact k h52 z65 g52 F66 (by omega) (show (h52 238 98) + (h52 238 99) + (h52 238 100) + (h52 238 101) + (h52 238 102) + (h52 238 106) = (h52 238 73) by omega) (show (h52 238 73) ≤ (h52 238 2) by omega) (show (h52 238 119) ≤ (h52 238 67) by omega) (show (h52 238 69) ≤ (h52 238 5) by omega) (show (h52 238 2) ≤ 12 * (h52 238 5) by omega) gs79 gp80
          ·
            rw [q31]
            refine wr_V (k0 := 236) (rest := []) (as := [.ref 236, vi 1]) (nx := 26) (r1 := 277) (r2 := 1) (r3 := 11) rfl rfl rfl (of_decide_eq_true rfl) rfl rfl (by decide) rfl rfl (of_decide_eq_true rfl) (of_decide_eq_true rfl) ?_
            refine wi_aload_n (i := 0) (x := 236) (nx := 1) (r1 := 0) (r2 := 0) (r3 := 0) rfl rfl ?_
            refine wr_gr (k0 := 236) (x := 238) (nx := 4) (r1 := 11) (r2 := 13) (r3 := 0) rfl rfl (by decide) rfl ⟨rfl, rfl⟩ rfl ?_
            refine wi_bipush (n := 98) (nx := 6) (r1 := 0) (r2 := 0) (r3 := 0) rfl (by decide) ?_
            refine wi_iload_n (i := 1) (e := 1) (nx := 7) (r1 := 0) (r2 := 0) (r3 := 0) rfl rfl ?_
            refine wr_addL (99) (nx := 8) (r1 := 0) (r2 := 0) (r3 := 0) rfl (by decide) ?_
            refine wr_ia (k0 := 238) (a := 99) (f := 99) (x := h 238 99) (nx := 9) (r1 := 0) (r2 := 0) (r3 := 0) rfl (by decide) rfl (by omega) (by omega) (by decide) (u21 238 99 rfl) ?_
            refine wi_aload_n (i := 0) (x := 236) (nx := 10) (r1 := 0) (r2 := 0) (r3 := 0) rfl rfl ?_
            refine wr_gr (k0 := 236) (x := 238) (nx := 13) (r1 := 11) (r2 := 13) (r3 := 0) rfl rfl (by decide) rfl ⟨rfl, rfl⟩ rfl ?_
            refine wi_bipush (n := 15) (nx := 15) (r1 := 0) (r2 := 0) (r3 := 0) rfl (by decide) ?_
            refine wi_iload_n (i := 1) (e := 1) (nx := 16) (r1 := 0) (r2 := 0) (r3 := 0) rfl rfl ?_
            refine wr_addL (16) (nx := 17) (r1 := 0) (r2 := 0) (r3 := 0) rfl (by decide) ?_
            have b32 := gi_b (lo := 0) (hi := 6) g 238 16 rfl
            refine wr_ia (k0 := 238) (a := 16) (f := 16) (x := h 238 16) (nx := 18) (r1 := 0) (r2 := 0) (r3 := 0) rfl (by decide) rfl (by omega) (by omega) (by decide) (u21 238 16 rfl) ?_
            refine wi_icmp (cd := .ge) (nx := 21) (r1 := 25) (r2 := 0) (r3 := 0) rfl (by omega) (by omega) (fun (q33 : (h 238 16) ≤ (h 238 99)) => ?_) (fun (q33 : ¬ ((h 238 16) ≤ (h 238 99))) => ?_)
            ·
              refine wi_iconst (n := 0) (nx := 26) (r1 := 0) (r2 := 0) (r3 := 0) rfl ?_
              refine wi_zreturn (nx := 27) (r1 := 0) (r2 := 0) (r3 := 0) rfl rfl (by omega) ?_
              refine wk_i ?_
              refine wi_if (cd := .ne) (nx := 29) (r1 := 31) (r2 := 0) (r3 := 0) rfl (by omega) (fun (q34 : 0 ≠ 0) => by exfalso; omega) (fun (q34 : ¬ (0 ≠ 0)) => ?_)
              refine wi_iconst (n := (-1)) (nx := 30) (r1 := 0) (r2 := 0) (r3 := 0) rfl ?_
              refine wi_ireturn (nx := 31) (r1 := 0) (r2 := 0) (r3 := 0) rfl rfl ?_
              have e35 : h21 238 98 = h 238 98 := (u21 238 98 rfl)
              have e36 : h21 238 99 = h 238 99 := (u21 238 99 rfl)
              have e37 : h21 238 100 = h 238 100 := (u21 238 100 rfl)
              have e38 : h21 238 101 = h 238 101 := (u21 238 101 rfl)
              have e39 : h21 238 102 = h 238 102 := (u21 238 102 rfl)
              have e40 : h21 238 106 = h 238 106 := (u21 238 106 rfl)
              have e41 : h21 238 73 = h 238 73 := (u21 238 73 rfl)
              have e42 : h21 238 2 = h 238 2 := (u21 238 2 rfl)
              have e43 : h21 238 119 = h 238 119 := (u21 238 119 rfl)
              have e44 : h21 238 67 = h 238 67 := (u21 238 67 rfl)
              have e45 : h21 238 69 = h 238 69 := (u21 238 69 rfl)
              have e46 : h21 238 5 = h 238 5 := (u21 238 5 rfl)
              have gs47 := GPS.fr u21 rfl xq0
              have gp48 := GPH.fr u21 rfl gp0
              exact k h21 (-1) g21 F22 (by omega) (show (h21 238 98) + (h21 238 99) + (h21 238 100) + (h21 238 101) + (h21 238 102) + (h21 238 106) = (h21 238 73) by omega) (show (h21 238 73) ≤ (h21 238 2) by omega) (show (h21 238 119) ≤ (h21 238 67) by omega) (show (h21 238 69) ≤ (h21 238 5) by omega) (show (h21 238 2) ≤ 12 * (h21 238 5) by omega) gs47 gp48
            ·
              refine wi_iconst (n := 1) (nx := 22) (r1 := 0) (r2 := 0) (r3 := 0) rfl ?_
              refine wi_goto (nx := 25) (r1 := 26) (r2 := 0) (r3 := 0) rfl ?_
              refine wi_zreturn (nx := 27) (r1 := 0) (r2 := 0) (r3 := 0) rfl rfl (by omega) ?_
              refine wk_i ?_
              refine wi_if (cd := .ne) (nx := 29) (r1 := 31) (r2 := 0) (r3 := 0) rfl (by omega) (fun (q34 : 1 ≠ 0) => ?_) (fun (q34 : ¬ (1 ≠ 0)) => by exfalso; omega)
              refine wi_aload_n (i := 0) (x := 236) (nx := 32) (r1 := 0) (r2 := 0) (r3 := 0) rfl rfl ?_
              refine wr_V (k0 := 236) (rest := []) (as := [.ref 236]) (nx := 35) (r1 := 278) (r2 := 0) (r3 := 11) rfl rfl rfl (of_decide_eq_true rfl) rfl rfl (by decide) rfl rfl (of_decide_eq_true rfl) (of_decide_eq_true rfl) ?_
              have e36 : h21 238 98 = h 238 98 := (u21 238 98 rfl)
              have e37 : h21 238 99 = h 238 99 := (u21 238 99 rfl)
              have e38 : h21 238 100 = h 238 100 := (u21 238 100 rfl)
              have e39 : h21 238 101 = h 238 101 := (u21 238 101 rfl)
              have e40 : h21 238 102 = h 238 102 := (u21 238 102 rfl)
              have e41 : h21 238 106 = h 238 106 := (u21 238 106 rfl)
              have e42 : h21 238 73 = h 238 73 := (u21 238 73 rfl)
              have e43 : h21 238 2 = h 238 2 := (u21 238 2 rfl)
              have e44 : h21 238 119 = h 238 119 := (u21 238 119 rfl)
              have e45 : h21 238 67 = h 238 67 := (u21 238 67 rfl)
              have e46 : h21 238 69 = h 238 69 := (u21 238 69 rfl)
              have e47 : h21 238 5 = h 238 5 := (u21 238 5 rfl)
              have gs48 := GPS.fr u21 rfl xq0
              have gp49 := GPH.fr u21 rfl gp0
              refine ct_278_236 hcr  g21   (show (h21 238 98) + (h21 238 99) + (h21 238 100) + (h21 238 101) + (h21 238 102) + (h21 238 106) = (h21 238 73) by omega) (show (h21 238 73) ≤ (h21 238 2) by omega) (show (h21 238 119) ≤ (h21 238 67) by omega) (show (h21 238 69) ≤ (h21 238 5) by omega) (show (h21 238 2) ≤ 12 * (h21 238 5) by omega) gs48 gp49 (fun h35 g35 u35 (p35_0 : 1 ≤ (h35 236 22)) y35_0 y35_1 => ?_)
              have F50 := F22.then (by decide +kernel) u35
              have b51 := gi_b (lo := 0) (hi := 6) g35 236 22 rfl
              refine wk_n ?_
              refine wi_aload_n (i := 0) (x := 236) (nx := 36) (r1 := 0) (r2 := 0) (r3 := 0) rfl rfl ?_
              refine wi_iload_n (i := 1) (e := 1) (nx := 37) (r1 := 0) (r2 := 0) (r3 := 0) rfl rfl ?_
              refine wr_V (k0 := 236) (rest := []) (as := [.ref 236, vi 1]) (nx := 40) (r1 := 286) (r2 := 1) (r3 := 11) rfl rfl rfl (of_decide_eq_true rfl) rfl rfl (by decide) rfl rfl (of_decide_eq_true rfl) (of_decide_eq_true rfl) ?_
              have e53 : h35 238 98 = h 238 98 := ((u35 238 98 rfl).trans (u21 238 98 rfl))
              have e54 : h35 238 99 = h 238 99 := ((u35 238 99 rfl).trans (u21 238 99 rfl))
              have e55 : h35 238 100 = h 238 100 := ((u35 238 100 rfl).trans (u21 238 100 rfl))
              have e56 : h35 238 101 = h 238 101 := ((u35 238 101 rfl).trans (u21 238 101 rfl))
              have e57 : h35 238 102 = h 238 102 := ((u35 238 102 rfl).trans (u21 238 102 rfl))
              have e58 : h35 238 106 = h 238 106 := ((u35 238 106 rfl).trans (u21 238 106 rfl))
              have e59 : h35 238 73 = h 238 73 := ((u35 238 73 rfl).trans (u21 238 73 rfl))
              have e60 : h35 238 2 = h 238 2 := ((u35 238 2 rfl).trans (u21 238 2 rfl))
              have e61 : h35 238 119 = h 238 119 := ((u35 238 119 rfl).trans (u21 238 119 rfl))
              have e62 : h35 238 67 = h 238 67 := ((u35 238 67 rfl).trans (u21 238 67 rfl))
              have e63 : h35 238 69 = h 238 69 := ((u35 238 69 rfl).trans (u21 238 69 rfl))
              have e64 : h35 238 5 = h 238 5 := ((u35 238 5 rfl).trans (u21 238 5 rfl))
              refine ct_286_236_L1 hcr  g35   (show (h35 238 98) + (h35 238 99) + (h35 238 100) + (h35 238 101) + (h35 238 102) + (h35 238 106) = (h35 238 73) by omega) (show (h35 238 73) ≤ (h35 238 2) by omega) (show (h35 238 119) ≤ (h35 238 67) by omega) (show (h35 238 69) ≤ (h35 238 5) by omega) (show (h35 238 2) ≤ 12 * (h35 238 5) by omega) (show 1 ≤ (h35 238 102) by omega) (show (h35 238 99) ≤ 5 by omega) (fun h52 z65 g52 u52 (fz65 : 0 ≤ z65 ∧ z65 ≤ 11) (p52_0 : (h52 238 98) + (h52 238 99) + (h52 238 100) + (h52 238 101) + (h52 238 102) + (h52 238 106) = (h52 238 73)) (p52_1 : (h52 238 73) ≤ (h52 238 2)) (p52_2 : (h52 238 119) ≤ (h52 238 67)) (p52_3 : (h52 238 69) ≤ (h52 238 5)) (p52_4 : (h52 238 2) ≤ 12 * (h52 238 5)) => ?_)
              have F66 := F50.then (by decide +kernel) u52
              have e67 : h52 238 98 = h 238 98 := ((u52 238 98 rfl).trans ((u35 238 98 rfl).trans (u21 238 98 rfl)))
              have b68 := gi_b (lo := 0) (hi := 6) g52 238 99 rfl
              have e69 : h52 238 100 = h 238 100 := ((u52 238 100 rfl).trans ((u35 238 100 rfl).trans (u21 238 100 rfl)))
              have e70 : h52 238 101 = h 238 101 := ((u52 238 101 rfl).trans ((u35 238 101 rfl).trans (u21 238 101 rfl)))
              have b71 := gi_b (lo := 0) (hi := 3) g52 238 102 rfl
              have e72 : h52 238 106 = h 238 106 := ((u52 238 106 rfl).trans ((u35 238 106 rfl).trans (u21 238 106 rfl)))
              have e73 : h52 238 73 = h 238 73 := ((u52 238 73 rfl).trans ((u35 238 73 rfl).trans (u21 238 73 rfl)))
              have e74 : h52 238 2 = h 238 2 := ((u52 238 2 rfl).trans ((u35 238 2 rfl).trans (u21 238 2 rfl)))
              have e75 : h52 238 119 = h 238 119 := ((u52 238 119 rfl).trans ((u35 238 119 rfl).trans (u21 238 119 rfl)))
              have e76 : h52 238 67 = h 238 67 := ((u52 238 67 rfl).trans ((u35 238 67 rfl).trans (u21 238 67 rfl)))
              have e77 : h52 238 69 = h 238 69 := ((u52 238 69 rfl).trans ((u35 238 69 rfl).trans (u21 238 69 rfl)))
              have e78 : h52 238 5 = h 238 5 := ((u52 238 5 rfl).trans ((u35 238 5 rfl).trans (u21 238 5 rfl)))
              refine wk_i ?_
              refine wi_ireturn (nx := 41) (r1 := 0) (r2 := 0) (r3 := 0) rfl rfl ?_
              have gs79 := GPS.fr u52 rfl y35_0
              have gp80 := GPH.fr u52 rfl y35_1
              exact k h52 z65 g52 F66 (by omega) (show (h52 238 98) + (h52 238 99) + (h52 238 100) + (h52 238 101) + (h52 238 102) + (h52 238 106) = (h52 238 73) by omega) (show (h52 238 73) ≤ (h52 238 2) by omega) (show (h52 238 119) ≤ (h52 238 67) by omega) (show (h52 238 69) ≤ (h52 238 5) by omega) (show (h52 238 2) ≤ 12 * (h52 238 5) by omega) gs79 gp80
          ·
            rw [q31]
            refine wr_V (k0 := 236) (rest := []) (as := [.ref 236, vi 2]) (nx := 26) (r1 := 277) (r2 := 1) (r3 := 11) rfl rfl rfl (of_decide_eq_true rfl) rfl rfl (by decide) rfl rfl (of_decide_eq_true rfl) (of_decide_eq_true rfl) ?_
            refine wi_aload_n (i := 0) (x := 236) (nx := 1) (r1 := 0) (r2 := 0) (r3 := 0) rfl rfl ?_
            refine wr_gr (k0 := 236) (x := 238) (nx := 4) (r1 := 11) (r2 := 13) (r3 := 0) rfl rfl (by decide) rfl ⟨rfl, rfl⟩ rfl ?_
            refine wi_bipush (n := 98) (nx := 6) (r1 := 0) (r2 := 0) (r3 := 0) rfl (by decide) ?_
            refine wi_iload_n (i := 1) (e := 2) (nx := 7) (r1 := 0) (r2 := 0) (r3 := 0) rfl rfl ?_
            refine wr_addL (100) (nx := 8) (r1 := 0) (r2 := 0) (r3 := 0) rfl (by decide) ?_
            refine wr_ia (k0 := 238) (a := 100) (f := 100) (x := h 238 100) (nx := 9) (r1 := 0) (r2 := 0) (r3 := 0) rfl (by decide) rfl (by omega) (by omega) (by decide) (u21 238 100 rfl) ?_
            refine wi_aload_n (i := 0) (x := 236) (nx := 10) (r1 := 0) (r2 := 0) (r3 := 0) rfl rfl ?_
            refine wr_gr (k0 := 236) (x := 238) (nx := 13) (r1 := 11) (r2 := 13) (r3 := 0) rfl rfl (by decide) rfl ⟨rfl, rfl⟩ rfl ?_
            refine wi_bipush (n := 15) (nx := 15) (r1 := 0) (r2 := 0) (r3 := 0) rfl (by decide) ?_
            refine wi_iload_n (i := 1) (e := 2) (nx := 16) (r1 := 0) (r2 := 0) (r3 := 0) rfl rfl ?_
            refine wr_addL (17) (nx := 17) (r1 := 0) (r2 := 0) (r3 := 0) rfl (by decide) ?_
            have b32 := gi_b (lo := 0) (hi := 6) g 238 17 rfl
            refine wr_ia (k0 := 238) (a := 17) (f := 17) (x := h 238 17) (nx := 18) (r1 := 0) (r2 := 0) (r3 := 0) rfl (by decide) rfl (by omega) (by omega) (by decide) (u21 238 17 rfl) ?_
            refine wi_icmp (cd := .ge) (nx := 21) (r1 := 25) (r2 := 0) (r3 := 0) rfl (by omega) (by omega) (fun (q33 : (h 238 17) ≤ (h 238 100)) => ?_) (fun (q33 : ¬ ((h 238 17) ≤ (h 238 100))) => ?_)
            ·
              refine wi_iconst (n := 0) (nx := 26) (r1 := 0) (r2 := 0) (r3 := 0) rfl ?_
              refine wi_zreturn (nx := 27) (r1 := 0) (r2 := 0) (r3 := 0) rfl rfl (by omega) ?_
              refine wk_i ?_
              refine wi_if (cd := .ne) (nx := 29) (r1 := 31) (r2 := 0) (r3 := 0) rfl (by omega) (fun (q34 : 0 ≠ 0) => by exfalso; omega) (fun (q34 : ¬ (0 ≠ 0)) => ?_)
              refine wi_iconst (n := (-1)) (nx := 30) (r1 := 0) (r2 := 0) (r3 := 0) rfl ?_
              refine wi_ireturn (nx := 31) (r1 := 0) (r2 := 0) (r3 := 0) rfl rfl ?_
              have e35 : h21 238 98 = h 238 98 := (u21 238 98 rfl)
              have e36 : h21 238 99 = h 238 99 := (u21 238 99 rfl)
              have e37 : h21 238 100 = h 238 100 := (u21 238 100 rfl)
              have e38 : h21 238 101 = h 238 101 := (u21 238 101 rfl)
              have e39 : h21 238 102 = h 238 102 := (u21 238 102 rfl)
              have e40 : h21 238 106 = h 238 106 := (u21 238 106 rfl)
              have e41 : h21 238 73 = h 238 73 := (u21 238 73 rfl)
              have e42 : h21 238 2 = h 238 2 := (u21 238 2 rfl)
              have e43 : h21 238 119 = h 238 119 := (u21 238 119 rfl)
              have e44 : h21 238 67 = h 238 67 := (u21 238 67 rfl)
              have e45 : h21 238 69 = h 238 69 := (u21 238 69 rfl)
              have e46 : h21 238 5 = h 238 5 := (u21 238 5 rfl)
              have gs47 := GPS.fr u21 rfl xq0
              have gp48 := GPH.fr u21 rfl gp0
              exact k h21 (-1) g21 F22 (by omega) (show (h21 238 98) + (h21 238 99) + (h21 238 100) + (h21 238 101) + (h21 238 102) + (h21 238 106) = (h21 238 73) by omega) (show (h21 238 73) ≤ (h21 238 2) by omega) (show (h21 238 119) ≤ (h21 238 67) by omega) (show (h21 238 69) ≤ (h21 238 5) by omega) (show (h21 238 2) ≤ 12 * (h21 238 5) by omega) gs47 gp48
            ·
              refine wi_iconst (n := 1) (nx := 22) (r1 := 0) (r2 := 0) (r3 := 0) rfl ?_
              refine wi_goto (nx := 25) (r1 := 26) (r2 := 0) (r3 := 0) rfl ?_
              refine wi_zreturn (nx := 27) (r1 := 0) (r2 := 0) (r3 := 0) rfl rfl (by omega) ?_
              refine wk_i ?_
              refine wi_if (cd := .ne) (nx := 29) (r1 := 31) (r2 := 0) (r3 := 0) rfl (by omega) (fun (q34 : 1 ≠ 0) => ?_) (fun (q34 : ¬ (1 ≠ 0)) => by exfalso; omega)
              refine wi_aload_n (i := 0) (x := 236) (nx := 32) (r1 := 0) (r2 := 0) (r3 := 0) rfl rfl ?_
              refine wr_V (k0 := 236) (rest := []) (as := [.ref 236]) (nx := 35) (r1 := 278) (r2 := 0) (r3 := 11) rfl rfl rfl (of_decide_eq_true rfl) rfl rfl (by decide) rfl rfl (of_decide_eq_true rfl) (of_decide_eq_true rfl) ?_
              have e36 : h21 238 98 = h 238 98 := (u21 238 98 rfl)
              have e37 : h21 238 99 = h 238 99 := (u21 238 99 rfl)
              have e38 : h21 238 100 = h 238 100 := (u21 238 100 rfl)
              have e39 : h21 238 101 = h 238 101 := (u21 238 101 rfl)
              have e40 : h21 238 102 = h 238 102 := (u21 238 102 rfl)
              have e41 : h21 238 106 = h 238 106 := (u21 238 106 rfl)
              have e42 : h21 238 73 = h 238 73 := (u21 238 73 rfl)
              have e43 : h21 238 2 = h 238 2 := (u21 238 2 rfl)
              have e44 : h21 238 119 = h 238 119 := (u21 238 119 rfl)
              have e45 : h21 238 67 = h 238 67 := (u21 238 67 rfl)
              have e46 : h21 238 69 = h 238 69 := (u21 238 69 rfl)
              have e47 : h21 238 5 = h 238 5 := (u21 238 5 rfl)
              have gs48 := GPS.fr u21 rfl xq0
              have gp49 := GPH.fr u21 rfl gp0
              refine ct_278_236 hcr  g21   (show (h21 238 98) + (h21 238 99) + (h21 238 100) + (h21 238 101) + (h21 238 102) + (h21 238 106) = (h21 238 73) by omega) (show (h21 238 73) ≤ (h21 238 2) by omega) (show (h21 238 119) ≤ (h21 238 67) by omega) (show (h21 238 69) ≤ (h21 238 5) by omega) (show (h21 238 2) ≤ 12 * (h21 238 5) by omega) gs48 gp49 (fun h35 g35 u35 (p35_0 : 1 ≤ (h35 236 22)) y35_0 y35_1 => ?_)
              have F50 := F22.then (by decide +kernel) u35
              have b51 := gi_b (lo := 0) (hi := 6) g35 236 22 rfl
              refine wk_n ?_
              refine wi_aload_n (i := 0) (x := 236) (nx := 36) (r1 := 0) (r2 := 0) (r3 := 0) rfl rfl ?_
              refine wi_iload_n (i := 1) (e := 2) (nx := 37) (r1 := 0) (r2 := 0) (r3 := 0) rfl rfl ?_
              refine wr_V (k0 := 236) (rest := []) (as := [.ref 236, vi 2]) (nx := 40) (r1 := 286) (r2 := 1) (r3 := 11) rfl rfl rfl (of_decide_eq_true rfl) rfl rfl (by decide) rfl rfl (of_decide_eq_true rfl) (of_decide_eq_true rfl) ?_
              have e53 : h35 238 98 = h 238 98 := ((u35 238 98 rfl).trans (u21 238 98 rfl))
              have e54 : h35 238 99 = h 238 99 := ((u35 238 99 rfl).trans (u21 238 99 rfl))
              have e55 : h35 238 100 = h 238 100 := ((u35 238 100 rfl).trans (u21 238 100 rfl))
              have e56 : h35 238 101 = h 238 101 := ((u35 238 101 rfl).trans (u21 238 101 rfl))
              have e57 : h35 238 102 = h 238 102 := ((u35 238 102 rfl).trans (u21 238 102 rfl))
              have e58 : h35 238 106 = h 238 106 := ((u35 238 106 rfl).trans (u21 238 106 rfl))
              have e59 : h35 238 73 = h 238 73 := ((u35 238 73 rfl).trans (u21 238 73 rfl))
              have e60 : h35 238 2 = h 238 2 := ((u35 238 2 rfl).trans (u21 238 2 rfl))
              have e61 : h35 238 119 = h 238 119 := ((u35 238 119 rfl).trans (u21 238 119 rfl))
              have e62 : h35 238 67 = h 238 67 := ((u35 238 67 rfl).trans (u21 238 67 rfl))
              have e63 : h35 238 69 = h 238 69 := ((u35 238 69 rfl).trans (u21 238 69 rfl))
              have e64 : h35 238 5 = h 238 5 := ((u35 238 5 rfl).trans (u21 238 5 rfl))
              refine ct_286_236_L2 hcr  g35   (show (h35 238 98) + (h35 238 99) + (h35 238 100) + (h35 238 101) + (h35 238 102) + (h35 238 106) = (h35 238 73) by omega) (show (h35 238 73) ≤ (h35 238 2) by omega) (show (h35 238 119) ≤ (h35 238 67) by omega) (show (h35 238 69) ≤ (h35 238 5) by omega) (show (h35 238 2) ≤ 12 * (h35 238 5) by omega) (show 1 ≤ (h35 238 102) by omega) (show (h35 238 100) ≤ 5 by omega) (fun h52 z65 g52 u52 (fz65 : 0 ≤ z65 ∧ z65 ≤ 11) (p52_0 : (h52 238 98) + (h52 238 99) + (h52 238 100) + (h52 238 101) + (h52 238 102) + (h52 238 106) = (h52 238 73)) (p52_1 : (h52 238 73) ≤ (h52 238 2)) (p52_2 : (h52 238 119) ≤ (h52 238 67)) (p52_3 : (h52 238 69) ≤ (h52 238 5)) (p52_4 : (h52 238 2) ≤ 12 * (h52 238 5)) => ?_)
              have F66 := F50.then (by decide +kernel) u52
              have e67 : h52 238 98 = h 238 98 := ((u52 238 98 rfl).trans ((u35 238 98 rfl).trans (u21 238 98 rfl)))
              have e68 : h52 238 99 = h 238 99 := ((u52 238 99 rfl).trans ((u35 238 99 rfl).trans (u21 238 99 rfl)))
              have b69 := gi_b (lo := 0) (hi := 6) g52 238 100 rfl
              have e70 : h52 238 101 = h 238 101 := ((u52 238 101 rfl).trans ((u35 238 101 rfl).trans (u21 238 101 rfl)))
              have b71 := gi_b (lo := 0) (hi := 3) g52 238 102 rfl
              have e72 : h52 238 106 = h 238 106 := ((u52 238 106 rfl).trans ((u35 238 106 rfl).trans (u21 238 106 rfl)))
              have e73 : h52 238 73 = h 238 73 := ((u52 238 73 rfl).trans ((u35 238 73 rfl).trans (u21 238 73 rfl)))
              have e74 : h52 238 2 = h 238 2 := ((u52 238 2 rfl).trans ((u35 238 2 rfl).trans (u21 238 2 rfl)))
              have e75 : h52 238 119 = h 238 119 := ((u52 238 119 rfl).trans ((u35 238 119 rfl).trans (u21 238 119 rfl)))
              have e76 : h52 238 67 = h 238 67 := ((u52 238 67 rfl).trans ((u35 238 67 rfl).trans (u21 238 67 rfl)))
              have e77 : h52 238 69 = h 238 69 := ((u52 238 69 rfl).trans ((u35 238 69 rfl).trans (u21 238 69 rfl)))
              have e78 : h52 238 5 = h 238 5 := ((u52 238 5 rfl).trans ((u35 238 5 rfl).trans (u21 238 5 rfl)))
              refine wk_i ?_
              refine wi_ireturn (nx := 41) (r1 := 0) (r2 := 0) (r3 := 0) rfl rfl ?_
              have gs79 := GPS.fr u52 rfl y35_0
              have gp80 := GPH.fr u52 rfl y35_1
              exact k h52 z65 g52 F66 (by omega) (show (h52 238 98) + (h52 238 99) + (h52 238 100) + (h52 238 101) + (h52 238 102) + (h52 238 106) = (h52 238 73) by omega) (show (h52 238 73) ≤ (h52 238 2) by omega) (show (h52 238 119) ≤ (h52 238 67) by omega) (show (h52 238 69) ≤ (h52 238 5) by omega) (show (h52 238 2) ≤ 12 * (h52 238 5) by omega) gs79 gp80
          ·
            rw [q31]
            refine wr_V (k0 := 236) (rest := []) (as := [.ref 236, vi 3]) (nx := 26) (r1 := 277) (r2 := 1) (r3 := 11) rfl rfl rfl (of_decide_eq_true rfl) rfl rfl (by decide) rfl rfl (of_decide_eq_true rfl) (of_decide_eq_true rfl) ?_
            refine wi_aload_n (i := 0) (x := 236) (nx := 1) (r1 := 0) (r2 := 0) (r3 := 0) rfl rfl ?_
            refine wr_gr (k0 := 236) (x := 238) (nx := 4) (r1 := 11) (r2 := 13) (r3 := 0) rfl rfl (by decide) rfl ⟨rfl, rfl⟩ rfl ?_
            refine wi_bipush (n := 98) (nx := 6) (r1 := 0) (r2 := 0) (r3 := 0) rfl (by decide) ?_
            refine wi_iload_n (i := 1) (e := 3) (nx := 7) (r1 := 0) (r2 := 0) (r3 := 0) rfl rfl ?_
            refine wr_addL (101) (nx := 8) (r1 := 0) (r2 := 0) (r3 := 0) rfl (by decide) ?_
            refine wr_ia (k0 := 238) (a := 101) (f := 101) (x := h 238 101) (nx := 9) (r1 := 0) (r2 := 0) (r3 := 0) rfl (by decide) rfl (by omega) (by omega) (by decide) (u21 238 101 rfl) ?_
            refine wi_aload_n (i := 0) (x := 236) (nx := 10) (r1 := 0) (r2 := 0) (r3 := 0) rfl rfl ?_
            refine wr_gr (k0 := 236) (x := 238) (nx := 13) (r1 := 11) (r2 := 13) (r3 := 0) rfl rfl (by decide) rfl ⟨rfl, rfl⟩ rfl ?_
            refine wi_bipush (n := 15) (nx := 15) (r1 := 0) (r2 := 0) (r3 := 0) rfl (by decide) ?_
            refine wi_iload_n (i := 1) (e := 3) (nx := 16) (r1 := 0) (r2 := 0) (r3 := 0) rfl rfl ?_
            refine wr_addL (18) (nx := 17) (r1 := 0) (r2 := 0) (r3 := 0) rfl (by decide) ?_
            have b32 := gi_b (lo := 0) (hi := 6) g 238 18 rfl
            refine wr_ia (k0 := 238) (a := 18) (f := 18) (x := h 238 18) (nx := 18) (r1 := 0) (r2 := 0) (r3 := 0) rfl (by decide) rfl (by omega) (by omega) (by decide) (u21 238 18 rfl) ?_
            refine wi_icmp (cd := .ge) (nx := 21) (r1 := 25) (r2 := 0) (r3 := 0) rfl (by omega) (by omega) (fun (q33 : (h 238 18) ≤ (h 238 101)) => ?_) (fun (q33 : ¬ ((h 238 18) ≤ (h 238 101))) => ?_)
            ·
              refine wi_iconst (n := 0) (nx := 26) (r1 := 0) (r2 := 0) (r3 := 0) rfl ?_
              refine wi_zreturn (nx := 27) (r1 := 0) (r2 := 0) (r3 := 0) rfl rfl (by omega) ?_
              refine wk_i ?_
              refine wi_if (cd := .ne) (nx := 29) (r1 := 31) (r2 := 0) (r3 := 0) rfl (by omega) (fun (q34 : 0 ≠ 0) => by exfalso; omega) (fun (q34 : ¬ (0 ≠ 0)) => ?_)
              refine wi_iconst (n := (-1)) (nx := 30) (r1 := 0) (r2 := 0) (r3 := 0) rfl ?_
              refine wi_ireturn (nx := 31) (r1 := 0) (r2 := 0) (r3 := 0) rfl rfl ?_
              have e35 : h21 238 98 = h 238 98 := (u21 238 98 rfl)
              have e36 : h21 238 99 = h 238 99 := (u21 238 99 rfl)
              have e37 : h21 238 100 = h 238 100 := (u21 238 100 rfl)
              have e38 : h21 238 101 = h 238 101 := (u21 238 101 rfl)
              have e39 : h21 238 102 = h 238 102 := (u21 238 102 rfl)
              have e40 : h21 238 106 = h 238 106 := (u21 238 106 rfl)
              have e41 : h21 238 73 = h 238 73 := (u21 238 73 rfl)
              have e42 : h21 238 2 = h 238 2 := (u21 238 2 rfl)
              have e43 : h21 238 119 = h 238 119 := (u21 238 119 rfl)
              have e44 : h21 238 67 = h 238 67 := (u21 238 67 rfl)
              have e45 : h21 238 69 = h 238 69 := (u21 238 69 rfl)
              have e46 : h21 238 5 = h 238 5 := (u21 238 5 rfl)
              have gs47 := GPS.fr u21 rfl xq0
              have gp48 := GPH.fr u21 rfl gp0
              exact k h21 (-1) g21 F22 (by omega) (show (h21 238 98) + (h21 238 99) + (h21 238 100) + (h21 238 101) + (h21 238 102) + (h21 238 106) = (h21 238 73) by omega) (show (h21 238 73) ≤ (h21 238 2) by omega) (show (h21 238 119) ≤ (h21 238 67) by omega) (show (h21 238 69) ≤ (h21 238 5) by omega) (show (h21 238 2) ≤ 12 * (h21 238 5) by omega) gs47 gp48
            ·
              refine wi_iconst (n := 1) (nx := 22) (r1 := 0) (r2 := 0) (r3 := 0) rfl ?_
              refine wi_goto (nx := 25) (r1 := 26) (r2 := 0) (r3 := 0) rfl ?_
              refine wi_zreturn (nx := 27) (r1 := 0) (r2 := 0) (r3 := 0) rfl rfl (by omega) ?_
              refine wk_i ?_
              refine wi_if (cd := .ne) (nx := 29) (r1 := 31) (r2 := 0) (r3 := 0) rfl (by omega) (fun (q34 : 1 ≠ 0) => ?_) (fun (q34 : ¬ (1 ≠ 0)) => by exfalso; omega)
              refine wi_aload_n (i := 0) (x := 236) (nx := 32) (r1 := 0) (r2 := 0) (r3 := 0) rfl rfl ?_
              refine wr_V (k0 := 236) (rest := []) (as := [.ref 236]) (nx := 35) (r1 := 278) (r2 := 0) (r3 := 11) rfl rfl rfl (of_decide_eq_true rfl) rfl rfl (by decide) rfl rfl (of_decide_eq_true rfl) (of_decide_eq_true rfl) ?_
              have e36 : h21 238 98 = h 238 98 := (u21 238 98 rfl)
              have e37 : h21 238 99 = h 238 99 := (u21 238 99 rfl)
              have e38 : h21 238 100 = h 238 100 := (u21 238 100 rfl)
              have e39 : h21 238 101 = h 238 101 := (u21 238 101 rfl)
              have e40 : h21 238 102 = h 238 102 := (u21 238 102 rfl)
              have e41 : h21 238 106 = h 238 106 := (u21 238 106 rfl)
              have e42 : h21 238 73 = h 238 73 := (u21 238 73 rfl)
              have e43 : h21 238 2 = h 238 2 := (u21 238 2 rfl)
              have e44 : h21 238 119 = h 238 119 := (u21 238 119 rfl)
              have e45 : h21 238 67 = h 238 67 := (u21 238 67 rfl)
              have e46 : h21 238 69 = h 238 69 := (u21 238 69 rfl)
              have e47 : h21 238 5 = h 238 5 := (u21 238 5 rfl)
              have gs48 := GPS.fr u21 rfl xq0
              have gp49 := GPH.fr u21 rfl gp0
              refine ct_278_236 hcr  g21   (show (h21 238 98) + (h21 238 99) + (h21 238 100) + (h21 238 101) + (h21 238 102) + (h21 238 106) = (h21 238 73) by omega) (show (h21 238 73) ≤ (h21 238 2) by omega) (show (h21 238 119) ≤ (h21 238 67) by omega) (show (h21 238 69) ≤ (h21 238 5) by omega) (show (h21 238 2) ≤ 12 * (h21 238 5) by omega) gs48 gp49 (fun h35 g35 u35 (p35_0 : 1 ≤ (h35 236 22)) y35_0 y35_1 => ?_)
              have F50 := F22.then (by decide +kernel) u35
              have b51 := gi_b (lo := 0) (hi := 6) g35 236 22 rfl
              refine wk_n ?_
              refine wi_aload_n (i := 0) (x := 236) (nx := 36) (r1 := 0) (r2 := 0) (r3 := 0) rfl rfl ?_
              refine wi_iload_n (i := 1) (e := 3) (nx := 37) (r1 := 0) (r2 := 0) (r3 := 0) rfl rfl ?_
              refine wr_V (k0 := 236) (rest := []) (as := [.ref 236, vi 3]) (nx := 40) (r1 := 286) (r2 := 1) (r3 := 11) rfl rfl rfl (of_decide_eq_true rfl) rfl rfl (by decide) rfl rfl (of_decide_eq_true rfl) (of_decide_eq_true rfl) ?_
              have e53 : h35 238 98 = h 238 98 := ((u35 238 98 rfl).trans (u21 238 98 rfl))
              have e54 : h35 238 99 = h 238 99 := ((u35 238 99 rfl).trans (u21 238 99 rfl))
              have e55 : h35 238 100 = h 238 100 := ((u35 238 100 rfl).trans (u21 238 100 rfl))
              have e56 : h35 238 101 = h 238 101 := ((u35 238 101 rfl).trans (u21 238 101 rfl))
              have e57 : h35 238 102 = h 238 102 := ((u35 238 102 rfl).trans (u21 238 102 rfl))
              have e58 : h35 238 106 = h 238 106 := ((u35 238 106 rfl).trans (u21 238 106 rfl))
              have e59 : h35 238 73 = h 238 73 := ((u35 238 73 rfl).trans (u21 238 73 rfl))
              have e60 : h35 238 2 = h 238 2 := ((u35 238 2 rfl).trans (u21 238 2 rfl))
              have e61 : h35 238 119 = h 238 119 := ((u35 238 119 rfl).trans (u21 238 119 rfl))
              have e62 : h35 238 67 = h 238 67 := ((u35 238 67 rfl).trans (u21 238 67 rfl))
              have e63 : h35 238 69 = h 238 69 := ((u35 238 69 rfl).trans (u21 238 69 rfl))
              have e64 : h35 238 5 = h 238 5 := ((u35 238 5 rfl).trans (u21 238 5 rfl))
              refine ct_286_236_L3 hcr  g35   (show (h35 238 98) + (h35 238 99) + (h35 238 100) + (h35 238 101) + (h35 238 102) + (h35 238 106) = (h35 238 73) by omega) (show (h35 238 73) ≤ (h35 238 2) by omega) (show (h35 238 119) ≤ (h35 238 67) by omega) (show (h35 238 69) ≤ (h35 238 5) by omega) (show (h35 238 2) ≤ 12 * (h35 238 5) by omega) (show 1 ≤ (h35 238 102) by omega) (show (h35 238 101) ≤ 5 by omega) (fun h52 z65 g52 u52 (fz65 : 0 ≤ z65 ∧ z65 ≤ 11) (p52_0 : (h52 238 98) + (h52 238 99) + (h52 238 100) + (h52 238 101) + (h52 238 102) + (h52 238 106) = (h52 238 73)) (p52_1 : (h52 238 73) ≤ (h52 238 2)) (p52_2 : (h52 238 119) ≤ (h52 238 67)) (p52_3 : (h52 238 69) ≤ (h52 238 5)) (p52_4 : (h52 238 2) ≤ 12 * (h52 238 5)) => ?_)
              have F66 := F50.then (by decide +kernel) u52
              have e67 : h52 238 98 = h 238 98 := ((u52 238 98 rfl).trans ((u35 238 98 rfl).trans (u21 238 98 rfl)))
              have e68 : h52 238 99 = h 238 99 := ((u52 238 99 rfl).trans ((u35 238 99 rfl).trans (u21 238 99 rfl)))
              have e69 : h52 238 100 = h 238 100 := ((u52 238 100 rfl).trans ((u35 238 100 rfl).trans (u21 238 100 rfl)))
              have b70 := gi_b (lo := 0) (hi := 6) g52 238 101 rfl
              have b71 := gi_b (lo := 0) (hi := 3) g52 238 102 rfl
              have e72 : h52 238 106 = h 238 106 := ((u52 238 106 rfl).trans ((u35 238 106 rfl).trans (u21 238 106 rfl)))
              have e73 : h52 238 73 = h 238 73 := ((u52 238 73 rfl).trans ((u35 238 73 rfl).trans (u21 238 73 rfl)))
              have e74 : h52 238 2 = h 238 2 := ((u52 238 2 rfl).trans ((u35 238 2 rfl).trans (u21 238 2 rfl)))
              have e75 : h52 238 119 = h 238 119 := ((u52 238 119 rfl).trans ((u35 238 119 rfl).trans (u21 238 119 rfl)))
              have e76 : h52 238 67 = h 238 67 := ((u52 238 67 rfl).trans ((u35 238 67 rfl).trans (u21 238 67 rfl)))
              have e77 : h52 238 69 = h 238 69 := ((u52 238 69 rfl).trans ((u35 238 69 rfl).trans (u21 238 69 rfl)))
              have e78 : h52 238 5 = h 238 5 := ((u52 238 5 rfl).trans ((u35 238 5 rfl).trans (u21 238 5 rfl)))
              refine wk_i ?_
              refine wi_ireturn (nx := 41) (r1 := 0) (r2 := 0) (r3 := 0) rfl rfl ?_
              have gs79 := GPS.fr u52 rfl y35_0
              have gp80 := GPH.fr u52 rfl y35_1
              exact k h52 z65 g52 F66 (by omega) (show (h52 238 98) + (h52 238 99) + (h52 238 100) + (h52 238 101) + (h52 238 102) + (h52 238 106) = (h52 238 73) by omega) (show (h52 238 73) ≤ (h52 238 2) by omega) (show (h52 238 119) ≤ (h52 238 67) by omega) (show (h52 238 69) ≤ (h52 238 5) by omega) (show (h52 238 2) ≤ 12 * (h52 238 5) by omega) gs79 gp80
-- method 246: Model.bad(I)I
set_option maxRecDepth 100000 in
set_option maxHeartbeats 100000000 in
theorem ct_246_236 {L : Nat} {xs : Nat → Int32} {d b c : Nat} {h : hp} {cr : Nat → Nat → Option Nat} {Q : hp_Q} (hcr : CR cr)  (g : GI h) (a0 : Int) (q0_ : -2147483648 ≤ a0 ∧ a0 ≤ 2147483647)  (k : ∀ (h2 : hp) (z0 : Int) , GI h2 → FR [(236, 236, some (0, 0))] h h2 → (0 ≤ z0 ∧ z0 ≤ 999) → Q (.inl (some (vi z0))) (hp_w h2 cr) b c) : wp (md_xa (L, xs)) (d + 2) 246 (0, [(0, .ref 236), (1, vi a0)], [], hp_w h cr, b, c) Q := by
  have F0 : FR [(236, 236, some (0, 0))] h h := FR.refl
  refine wi_aload_n (i := 0) (x := 236) (nx := 1) (r1 := 0) (r2 := 0) (r3 := 0) rfl rfl ?_
  refine wi_aload_n (i := 0) (x := 236) (nx := 2) (r1 := 0) (r2 := 0) (r3 := 0) rfl rfl ?_
  refine wi_iload_n (i := 1) (e := a0) (nx := 3) (r1 := 0) (r2 := 0) (r3 := 0) rfl rfl ?_
  refine wr_V (k0 := 236) (rest := [.ref 236]) (as := [.ref 236, vi a0]) (nx := 6) (r1 := 244) (r2 := 1) (r3 := 11) rfl rfl rfl (of_decide_eq_true rfl) rfl rfl (by decide) rfl rfl (of_decide_eq_true rfl) (of_decide_eq_true rfl) ?_
  refine wi_iload_n (i := 1) (e := a0) (nx := 1) (r1 := 0) (r2 := 0) (r3 := 0) rfl rfl ?_
  refine wi_i2l (nx := 2) (r1 := 0) (r2 := 0) (r3 := 0) rfl (by omega) ?_
  refine wi_lconst (n := 0) (e := 0) (nx := 3) (r1 := 0) (r2 := 0) (r3 := 0) rfl (by decide) ?_
  refine wi_aload_n (i := 0) (x := 236) (nx := 4) (r1 := 0) (r2 := 0) (r3 := 0) rfl rfl ?_
  refine wr_gr (k0 := 236) (x := 238) (nx := 7) (r1 := 11) (r2 := 13) (r3 := 0) rfl rfl (by decide) rfl ⟨rfl, rfl⟩ rfl ?_
  refine wi_iconst (n := 2) (nx := 8) (r1 := 0) (r2 := 0) (r3 := 0) rfl ?_
  have b1 := gi_b (lo := 0) (hi := 12) g 238 2 rfl
  refine wr_ia (k0 := 238) (a := 2) (f := 2) (x := h 238 2) (nx := 9) (r1 := 0) (r2 := 0) (r3 := 0) rfl (by decide) rfl (by omega) (by omega) (by decide) rfl ?_
  refine wi_iconst (n := 1) (nx := 10) (r1 := 0) (r2 := 0) (r3 := 0) rfl ?_
  refine wr_sub (nx := 11) (r1 := 0) (r2 := 0) (r3 := 0) rfl (fun e2 (fe2 : e2 = (h 238 2) - 1) => ?_)
  refine wi_i2l (nx := 12) (r1 := 0) (r2 := 0) (r3 := 0) rfl (by omega) ?_
  refine wi_S (rest := []) (as := [vl a0, vl 0, vl e2]) (nx := 15) (r1 := 210) (r2 := 19) (r3 := 0) rfl rfl rfl (of_decide_eq_true rfl) rfl rfl (of_decide_eq_true rfl) (of_decide_eq_true rfl) ?_
  refine wi_lload_n (i := 0) (e := a0) (nx := 1) (r1 := 0) (r2 := 0) (r3 := 0) rfl rfl ?_
  refine wi_lload_n (i := 2) (e := 0) (nx := 2) (r1 := 0) (r2 := 0) (r3 := 0) rfl rfl ?_
  refine wi_lcmp (a := a0) (e := 0) (nx := 3) (r1 := 0) (r2 := 0) (r3 := 0) rfl (by omega) (by omega) (fun r3 (fr3 : (r3 = -1 ∧ a0 < 0) ∨ (r3 = 0 ∧ a0 = 0) ∨ (r3 = 1 ∧ 0 < a0)) => ?_)
  refine wi_if (cd := .lt) (nx := 6) (r1 := 17) (r2 := 0) (r3 := 0) rfl (by omega) (fun (q4 : r3 < 0) => ?_) (fun (q4 : ¬ (r3 < 0)) => ?_)
  ·
    refine wi_iconst (n := 0) (nx := 18) (r1 := 0) (r2 := 0) (r3 := 0) rfl ?_
    refine wi_zreturn (nx := 19) (r1 := 0) (r2 := 0) (r3 := 0) rfl rfl (by omega) ?_
    refine wk_i ?_
    refine wi_zreturn (nx := 16) (r1 := 0) (r2 := 0) (r3 := 0) rfl rfl (by omega) ?_
    refine wk_i ?_
    refine wr_V (k0 := 236) (rest := []) (as := [.ref 236, vi 0]) (nx := 9) (r1 := 206) (r2 := 1) (r3 := 11) rfl rfl rfl (of_decide_eq_true rfl) rfl rfl (by decide) rfl rfl (of_decide_eq_true rfl) (of_decide_eq_true rfl) ?_
    refine wi_aload_n (i := 0) (x := 236) (nx := 1) (r1 := 0) (r2 := 0) (r3 := 0) rfl rfl ?_
    refine wi_iload_n (i := 1) (e := 0) (nx := 2) (r1 := 0) (r2 := 0) (r3 := 0) rfl rfl ?_
    refine wi_if (cd := .ne) (nx := 5) (r1 := 9) (r2 := 0) (r3 := 0) rfl (by omega) (fun (q5 : 0 ≠ 0) => by exfalso; omega) (fun (q5 : ¬ (0 ≠ 0)) => ?_)
    refine wi_iconst (n := 1) (nx := 6) (r1 := 0) (r2 := 0) (r3 := 0) rfl ?_
    refine wi_goto (nx := 9) (r1 := 10) (r2 := 0) (r3 := 0) rfl ?_
    refine wi_S (rest := [.ref 236]) (as := [vi 1]) (nx := 13) (r1 := 207) (r2 := 17) (r3 := 0) rfl rfl rfl (of_decide_eq_true rfl) rfl rfl (of_decide_eq_true rfl) (of_decide_eq_true rfl) ?_
    refine wi_iload_n (i := 0) (e := 1) (nx := 1) (r1 := 0) (r2 := 0) (r3 := 0) rfl rfl ?_
    refine wi_if (cd := .eq) (nx := 4) (r1 := 8) (r2 := 0) (r3 := 0) rfl (by omega) (fun (q6 : 1 = 0) => by exfalso; omega) (fun (q6 : ¬ (1 = 0)) => ?_)
    refine wi_iconst (n := 1) (nx := 5) (r1 := 0) (r2 := 0) (r3 := 0) rfl ?_
    refine wi_goto (nx := 8) (r1 := 9) (r2 := 0) (r3 := 0) rfl ?_
    refine wi_ireturn (nx := 10) (r1 := 0) (r2 := 0) (r3 := 0) rfl rfl ?_
    refine wk_i ?_
    refine wr_pf0 (k0 := 236) (x := 1) (bl := 0) (bh := 2) (nx := 16) (r1 := 11) (r2 := 0) (r3 := 0) rfl (by decide) rfl ⟨rfl, rfl⟩ rfl rfl g rfl (by omega) (fun h7 g7 w7 u7 => ?_)
    have F8 := F0.then rfl u7
    refine wi_iload_n (i := 1) (e := 0) (nx := 17) (r1 := 0) (r2 := 0) (r3 := 0) rfl rfl ?_
    refine wi_zreturn (nx := 18) (r1 := 0) (r2 := 0) (r3 := 0) rfl rfl (by omega) ?_
    refine wk_i ?_
    refine wi_if (cd := .eq) (nx := 12) (r1 := 24) (r2 := 0) (r3 := 0) rfl (by omega) (fun (q9 : 0 = 0) => ?_) (fun (q9 : ¬ (0 = 0)) => by exfalso; omega)
    refine wi_iconst (n := 0) (nx := 25) (r1 := 0) (r2 := 0) (r3 := 0) rfl ?_
    refine wi_ireturn (nx := 26) (r1 := 0) (r2 := 0) (r3 := 0) rfl rfl ?_
    exact k h7 0 g7 F8 (by omega)
  ·
    refine wi_lload_n (i := 0) (e := a0) (nx := 7) (r1 := 0) (r2 := 0) (r3 := 0) rfl rfl ?_
    refine wi_lload (i := 4) (e := e2) (nx := 9) (r1 := 0) (r2 := 0) (r3 := 0) rfl rfl ?_
    refine wi_lcmp (a := a0) (e := e2) (nx := 10) (r1 := 0) (r2 := 0) (r3 := 0) rfl (by omega) (by omega) (fun r5 (fr5 : (r5 = -1 ∧ a0 < e2) ∨ (r5 = 0 ∧ a0 = e2) ∨ (r5 = 1 ∧ e2 < a0)) => ?_)
    refine wi_if (cd := .gt) (nx := 13) (r1 := 17) (r2 := 0) (r3 := 0) rfl (by omega) (fun (q6 : 0 < r5) => ?_) (fun (q6 : ¬ (0 < r5)) => ?_)
    ·
      refine wi_iconst (n := 0) (nx := 18) (r1 := 0) (r2 := 0) (r3 := 0) rfl ?_
      refine wi_zreturn (nx := 19) (r1 := 0) (r2 := 0) (r3 := 0) rfl rfl (by omega) ?_
      refine wk_i ?_
      refine wi_zreturn (nx := 16) (r1 := 0) (r2 := 0) (r3 := 0) rfl rfl (by omega) ?_
      refine wk_i ?_
      refine wr_V (k0 := 236) (rest := []) (as := [.ref 236, vi 0]) (nx := 9) (r1 := 206) (r2 := 1) (r3 := 11) rfl rfl rfl (of_decide_eq_true rfl) rfl rfl (by decide) rfl rfl (of_decide_eq_true rfl) (of_decide_eq_true rfl) ?_
      refine wi_aload_n (i := 0) (x := 236) (nx := 1) (r1 := 0) (r2 := 0) (r3 := 0) rfl rfl ?_
      refine wi_iload_n (i := 1) (e := 0) (nx := 2) (r1 := 0) (r2 := 0) (r3 := 0) rfl rfl ?_
      refine wi_if (cd := .ne) (nx := 5) (r1 := 9) (r2 := 0) (r3 := 0) rfl (by omega) (fun (q7 : 0 ≠ 0) => by exfalso; omega) (fun (q7 : ¬ (0 ≠ 0)) => ?_)
      refine wi_iconst (n := 1) (nx := 6) (r1 := 0) (r2 := 0) (r3 := 0) rfl ?_
      refine wi_goto (nx := 9) (r1 := 10) (r2 := 0) (r3 := 0) rfl ?_
      refine wi_S (rest := [.ref 236]) (as := [vi 1]) (nx := 13) (r1 := 207) (r2 := 17) (r3 := 0) rfl rfl rfl (of_decide_eq_true rfl) rfl rfl (of_decide_eq_true rfl) (of_decide_eq_true rfl) ?_
      refine wi_iload_n (i := 0) (e := 1) (nx := 1) (r1 := 0) (r2 := 0) (r3 := 0) rfl rfl ?_
      refine wi_if (cd := .eq) (nx := 4) (r1 := 8) (r2 := 0) (r3 := 0) rfl (by omega) (fun (q8 : 1 = 0) => by exfalso; omega) (fun (q8 : ¬ (1 = 0)) => ?_)
      refine wi_iconst (n := 1) (nx := 5) (r1 := 0) (r2 := 0) (r3 := 0) rfl ?_
      refine wi_goto (nx := 8) (r1 := 9) (r2 := 0) (r3 := 0) rfl ?_
      refine wi_ireturn (nx := 10) (r1 := 0) (r2 := 0) (r3 := 0) rfl rfl ?_
      refine wk_i ?_
      refine wr_pf0 (k0 := 236) (x := 1) (bl := 0) (bh := 2) (nx := 16) (r1 := 11) (r2 := 0) (r3 := 0) rfl (by decide) rfl ⟨rfl, rfl⟩ rfl rfl g rfl (by omega) (fun h9 g9 w9 u9 => ?_)
      have F10 := F0.then rfl u9
      refine wi_iload_n (i := 1) (e := 0) (nx := 17) (r1 := 0) (r2 := 0) (r3 := 0) rfl rfl ?_
      refine wi_zreturn (nx := 18) (r1 := 0) (r2 := 0) (r3 := 0) rfl rfl (by omega) ?_
      refine wk_i ?_
      refine wi_if (cd := .eq) (nx := 12) (r1 := 24) (r2 := 0) (r3 := 0) rfl (by omega) (fun (q11 : 0 = 0) => ?_) (fun (q11 : ¬ (0 = 0)) => by exfalso; omega)
      refine wi_iconst (n := 0) (nx := 25) (r1 := 0) (r2 := 0) (r3 := 0) rfl ?_
      refine wi_ireturn (nx := 26) (r1 := 0) (r2 := 0) (r3 := 0) rfl rfl ?_
      exact k h9 0 g9 F10 (by omega)
    ·
      refine wi_iconst (n := 1) (nx := 14) (r1 := 0) (r2 := 0) (r3 := 0) rfl ?_
      refine wi_goto (nx := 17) (r1 := 18) (r2 := 0) (r3 := 0) rfl ?_
      refine wi_zreturn (nx := 19) (r1 := 0) (r2 := 0) (r3 := 0) rfl rfl (by omega) ?_
      refine wk_i ?_
      refine wi_zreturn (nx := 16) (r1 := 0) (r2 := 0) (r3 := 0) rfl rfl (by omega) ?_
      refine wk_i ?_
      refine wr_V (k0 := 236) (rest := []) (as := [.ref 236, vi 1]) (nx := 9) (r1 := 206) (r2 := 1) (r3 := 11) rfl rfl rfl (of_decide_eq_true rfl) rfl rfl (by decide) rfl rfl (of_decide_eq_true rfl) (of_decide_eq_true rfl) ?_
      refine wi_aload_n (i := 0) (x := 236) (nx := 1) (r1 := 0) (r2 := 0) (r3 := 0) rfl rfl ?_
      refine wi_iload_n (i := 1) (e := 1) (nx := 2) (r1 := 0) (r2 := 0) (r3 := 0) rfl rfl ?_
      refine wi_if (cd := .ne) (nx := 5) (r1 := 9) (r2 := 0) (r3 := 0) rfl (by omega) (fun (q7 : 1 ≠ 0) => ?_) (fun (q7 : ¬ (1 ≠ 0)) => by exfalso; omega)
      refine wi_iconst (n := 0) (nx := 10) (r1 := 0) (r2 := 0) (r3 := 0) rfl ?_
      refine wi_S (rest := [.ref 236]) (as := [vi 0]) (nx := 13) (r1 := 207) (r2 := 17) (r3 := 0) rfl rfl rfl (of_decide_eq_true rfl) rfl rfl (of_decide_eq_true rfl) (of_decide_eq_true rfl) ?_
      refine wi_iload_n (i := 0) (e := 0) (nx := 1) (r1 := 0) (r2 := 0) (r3 := 0) rfl rfl ?_
      refine wi_if (cd := .eq) (nx := 4) (r1 := 8) (r2 := 0) (r3 := 0) rfl (by omega) (fun (q8 : 0 = 0) => ?_) (fun (q8 : ¬ (0 = 0)) => by exfalso; omega)
      refine wi_iconst (n := 0) (nx := 9) (r1 := 0) (r2 := 0) (r3 := 0) rfl ?_
      refine wi_ireturn (nx := 10) (r1 := 0) (r2 := 0) (r3 := 0) rfl rfl ?_
      refine wk_i ?_
      refine wr_pf0 (k0 := 236) (x := 0) (bl := 0) (bh := 2) (nx := 16) (r1 := 11) (r2 := 0) (r3 := 0) rfl (by decide) rfl ⟨rfl, rfl⟩ rfl rfl g rfl (by omega) (fun h9 g9 w9 u9 => ?_)
      have F10 := F0.then rfl u9
      refine wi_iload_n (i := 1) (e := 1) (nx := 17) (r1 := 0) (r2 := 0) (r3 := 0) rfl rfl ?_
      refine wi_zreturn (nx := 18) (r1 := 0) (r2 := 0) (r3 := 0) rfl rfl (by omega) ?_
      refine wk_i ?_
      refine wi_if (cd := .eq) (nx := 12) (r1 := 24) (r2 := 0) (r3 := 0) rfl (by omega) (fun (q11 : 1 = 0) => by exfalso; omega) (fun (q11 : ¬ (1 = 0)) => ?_)
      refine wi_aload_n (i := 0) (x := 236) (nx := 13) (r1 := 0) (r2 := 0) (r3 := 0) rfl rfl ?_
      refine wr_gr (k0 := 236) (x := 238) (nx := 16) (r1 := 11) (r2 := 13) (r3 := 0) rfl rfl (by decide) rfl ⟨rfl, rfl⟩ rfl ?_
      refine wi_bipush (n := 43) (nx := 18) (r1 := 0) (r2 := 0) (r3 := 0) rfl (by decide) ?_
      refine wi_iload_n (i := 1) (e := a0) (nx := 19) (r1 := 0) (r2 := 0) (r3 := 0) rfl rfl ?_
      refine wr_add (nx := 20) (r1 := 0) (r2 := 0) (r3 := 0) rfl (fun e12 (fe12 : e12 = 43 + a0) => ?_)
      obtain ⟨i13, ei13⟩ : ∃ q : Nat, e12 = (q : Int) := ⟨(e12).toNat, by omega⟩
      have b14 := gi_b (lo := 0) (hi := 999) g 238 i13 (gi_rg 43 12 (fun _ => rfl) (by decide +kernel) (by omega))
      refine wr_ia (k0 := 238) (a := e12) (f := i13) (x := h 238 i13) (nx := 21) (r1 := 0) (r2 := 0) (r3 := 0) rfl (by decide) rfl (by omega) (by omega) (by decide) (u9 238 i13 (fn_a (by omega) fn_0)) ?_
      refine wi_goto (nx := 24) (r1 := 25) (r2 := 0) (r3 := 0) rfl ?_
      refine wi_ireturn (nx := 26) (r1 := 0) (r2 := 0) (r3 := 0) rfl rfl ?_
      exact k h9 (h 238 i13) g9 F10 (by omega)
-- method 243: Model.body(I)I
set_option maxRecDepth 100000 in
set_option maxHeartbeats 100000000 in
theorem ct_243_236 {L : Nat} {xs : Nat → Int32} {d b c : Nat} {h : hp} {cr : Nat → Nat → Option Nat} {Q : hp_Q} (hcr : CR cr)  (g : GI h) (a0 : Int) (q0_ : -2147483648 ≤ a0 ∧ a0 ≤ 2147483647)  (k : ∀ (h2 : hp) (z0 : Int) , GI h2 → FR [(236, 236, some (0, 0))] h h2 → (0 ≤ z0 ∧ z0 ≤ 999) → ((0 ≤ a0 ∧ a0 < h 238 2 ∧ h2 236 0 = 0) ∨ ((a0 < 0 ∨ h 238 2 ≤ a0) ∧ h2 236 0 = 1)) → (0 ≤ a0 → a0 < h 238 2 → z0 = h 238 (19 + a0.toNat)) → Q (.inl (some (vi z0))) (hp_w h2 cr) b c) : wp (md_xa (L, xs)) (d + 2) 243 (0, [(0, .ref 236), (1, vi a0)], [], hp_w h cr, b, c) Q := by
  have F0 : FR [(236, 236, some (0, 0))] h h := FR.refl
  refine wi_aload_n (i := 0) (x := 236) (nx := 1) (r1 := 0) (r2 := 0) (r3 := 0) rfl rfl ?_
  refine wi_aload_n (i := 0) (x := 236) (nx := 2) (r1 := 0) (r2 := 0) (r3 := 0) rfl rfl ?_
  refine wi_iload_n (i := 1) (e := a0) (nx := 3) (r1 := 0) (r2 := 0) (r3 := 0) rfl rfl ?_
  refine wr_V (k0 := 236) (rest := [.ref 236]) (as := [.ref 236, vi a0]) (nx := 6) (r1 := 244) (r2 := 1) (r3 := 11) rfl rfl rfl (of_decide_eq_true rfl) rfl rfl (by decide) rfl rfl (of_decide_eq_true rfl) (of_decide_eq_true rfl) ?_
  refine wi_iload_n (i := 1) (e := a0) (nx := 1) (r1 := 0) (r2 := 0) (r3 := 0) rfl rfl ?_
  refine wi_i2l (nx := 2) (r1 := 0) (r2 := 0) (r3 := 0) rfl (by omega) ?_
  refine wi_lconst (n := 0) (e := 0) (nx := 3) (r1 := 0) (r2 := 0) (r3 := 0) rfl (by decide) ?_
  refine wi_aload_n (i := 0) (x := 236) (nx := 4) (r1 := 0) (r2 := 0) (r3 := 0) rfl rfl ?_
  refine wr_gr (k0 := 236) (x := 238) (nx := 7) (r1 := 11) (r2 := 13) (r3 := 0) rfl rfl (by decide) rfl ⟨rfl, rfl⟩ rfl ?_
  refine wi_iconst (n := 2) (nx := 8) (r1 := 0) (r2 := 0) (r3 := 0) rfl ?_
  have b1 := gi_b (lo := 0) (hi := 12) g 238 2 rfl
  refine wr_ia (k0 := 238) (a := 2) (f := 2) (x := h 238 2) (nx := 9) (r1 := 0) (r2 := 0) (r3 := 0) rfl (by decide) rfl (by omega) (by omega) (by decide) rfl ?_
  refine wi_iconst (n := 1) (nx := 10) (r1 := 0) (r2 := 0) (r3 := 0) rfl ?_
  refine wr_sub (nx := 11) (r1 := 0) (r2 := 0) (r3 := 0) rfl (fun e2 (fe2 : e2 = (h 238 2) - 1) => ?_)
  refine wi_i2l (nx := 12) (r1 := 0) (r2 := 0) (r3 := 0) rfl (by omega) ?_
  refine wi_S (rest := []) (as := [vl a0, vl 0, vl e2]) (nx := 15) (r1 := 210) (r2 := 19) (r3 := 0) rfl rfl rfl (of_decide_eq_true rfl) rfl rfl (of_decide_eq_true rfl) (of_decide_eq_true rfl) ?_
  refine wi_lload_n (i := 0) (e := a0) (nx := 1) (r1 := 0) (r2 := 0) (r3 := 0) rfl rfl ?_
  refine wi_lload_n (i := 2) (e := 0) (nx := 2) (r1 := 0) (r2 := 0) (r3 := 0) rfl rfl ?_
  refine wi_lcmp (a := a0) (e := 0) (nx := 3) (r1 := 0) (r2 := 0) (r3 := 0) rfl (by omega) (by omega) (fun r3 (fr3 : (r3 = -1 ∧ a0 < 0) ∨ (r3 = 0 ∧ a0 = 0) ∨ (r3 = 1 ∧ 0 < a0)) => ?_)
  refine wi_if (cd := .lt) (nx := 6) (r1 := 17) (r2 := 0) (r3 := 0) rfl (by omega) (fun (q4 : r3 < 0) => ?_) (fun (q4 : ¬ (r3 < 0)) => ?_)
  ·
    refine wi_iconst (n := 0) (nx := 18) (r1 := 0) (r2 := 0) (r3 := 0) rfl ?_
    refine wi_zreturn (nx := 19) (r1 := 0) (r2 := 0) (r3 := 0) rfl rfl (by omega) ?_
    refine wk_i ?_
    refine wi_zreturn (nx := 16) (r1 := 0) (r2 := 0) (r3 := 0) rfl rfl (by omega) ?_
    refine wk_i ?_
    refine wr_V (k0 := 236) (rest := []) (as := [.ref 236, vi 0]) (nx := 9) (r1 := 206) (r2 := 1) (r3 := 11) rfl rfl rfl (of_decide_eq_true rfl) rfl rfl (by decide) rfl rfl (of_decide_eq_true rfl) (of_decide_eq_true rfl) ?_
    refine wi_aload_n (i := 0) (x := 236) (nx := 1) (r1 := 0) (r2 := 0) (r3 := 0) rfl rfl ?_
    refine wi_iload_n (i := 1) (e := 0) (nx := 2) (r1 := 0) (r2 := 0) (r3 := 0) rfl rfl ?_
    refine wi_if (cd := .ne) (nx := 5) (r1 := 9) (r2 := 0) (r3 := 0) rfl (by omega) (fun (q5 : 0 ≠ 0) => by exfalso; omega) (fun (q5 : ¬ (0 ≠ 0)) => ?_)
    refine wi_iconst (n := 1) (nx := 6) (r1 := 0) (r2 := 0) (r3 := 0) rfl ?_
    refine wi_goto (nx := 9) (r1 := 10) (r2 := 0) (r3 := 0) rfl ?_
    refine wi_S (rest := [.ref 236]) (as := [vi 1]) (nx := 13) (r1 := 207) (r2 := 17) (r3 := 0) rfl rfl rfl (of_decide_eq_true rfl) rfl rfl (of_decide_eq_true rfl) (of_decide_eq_true rfl) ?_
    refine wi_iload_n (i := 0) (e := 1) (nx := 1) (r1 := 0) (r2 := 0) (r3 := 0) rfl rfl ?_
    refine wi_if (cd := .eq) (nx := 4) (r1 := 8) (r2 := 0) (r3 := 0) rfl (by omega) (fun (q6 : 1 = 0) => by exfalso; omega) (fun (q6 : ¬ (1 = 0)) => ?_)
    refine wi_iconst (n := 1) (nx := 5) (r1 := 0) (r2 := 0) (r3 := 0) rfl ?_
    refine wi_goto (nx := 8) (r1 := 9) (r2 := 0) (r3 := 0) rfl ?_
    refine wi_ireturn (nx := 10) (r1 := 0) (r2 := 0) (r3 := 0) rfl rfl ?_
    refine wk_i ?_
    refine wr_pf0 (k0 := 236) (x := 1) (bl := 0) (bh := 2) (nx := 16) (r1 := 11) (r2 := 0) (r3 := 0) rfl (by decide) rfl ⟨rfl, rfl⟩ rfl rfl g rfl (by omega) (fun h7 g7 w7 u7 => ?_)
    have F8 := F0.then rfl u7
    refine wi_iload_n (i := 1) (e := 0) (nx := 17) (r1 := 0) (r2 := 0) (r3 := 0) rfl rfl ?_
    refine wi_zreturn (nx := 18) (r1 := 0) (r2 := 0) (r3 := 0) rfl rfl (by omega) ?_
    refine wk_i ?_
    refine wi_if (cd := .eq) (nx := 12) (r1 := 24) (r2 := 0) (r3 := 0) rfl (by omega) (fun (q9 : 0 = 0) => ?_) (fun (q9 : ¬ (0 = 0)) => by exfalso; omega)
    refine wi_iconst (n := 0) (nx := 25) (r1 := 0) (r2 := 0) (r3 := 0) rfl ?_
    refine wi_ireturn (nx := 26) (r1 := 0) (r2 := 0) (r3 := 0) rfl rfl ?_
    have e10 : h7 236 0 = 1 := w7
    exact k h7 0 g7 F8 (by omega) (show (0 ≤ a0 ∧ a0 < (h 238 2) ∧ (h7 236 0) = 0) ∨ ((a0 < 0 ∨ (h 238 2) ≤ a0) ∧ (h7 236 0) = 1) by omega) (fun e1 e2 => by exfalso; omega)
  ·
    refine wi_lload_n (i := 0) (e := a0) (nx := 7) (r1 := 0) (r2 := 0) (r3 := 0) rfl rfl ?_
    refine wi_lload (i := 4) (e := e2) (nx := 9) (r1 := 0) (r2 := 0) (r3 := 0) rfl rfl ?_
    refine wi_lcmp (a := a0) (e := e2) (nx := 10) (r1 := 0) (r2 := 0) (r3 := 0) rfl (by omega) (by omega) (fun r5 (fr5 : (r5 = -1 ∧ a0 < e2) ∨ (r5 = 0 ∧ a0 = e2) ∨ (r5 = 1 ∧ e2 < a0)) => ?_)
    refine wi_if (cd := .gt) (nx := 13) (r1 := 17) (r2 := 0) (r3 := 0) rfl (by omega) (fun (q6 : 0 < r5) => ?_) (fun (q6 : ¬ (0 < r5)) => ?_)
    ·
      refine wi_iconst (n := 0) (nx := 18) (r1 := 0) (r2 := 0) (r3 := 0) rfl ?_
      refine wi_zreturn (nx := 19) (r1 := 0) (r2 := 0) (r3 := 0) rfl rfl (by omega) ?_
      refine wk_i ?_
      refine wi_zreturn (nx := 16) (r1 := 0) (r2 := 0) (r3 := 0) rfl rfl (by omega) ?_
      refine wk_i ?_
      refine wr_V (k0 := 236) (rest := []) (as := [.ref 236, vi 0]) (nx := 9) (r1 := 206) (r2 := 1) (r3 := 11) rfl rfl rfl (of_decide_eq_true rfl) rfl rfl (by decide) rfl rfl (of_decide_eq_true rfl) (of_decide_eq_true rfl) ?_
      refine wi_aload_n (i := 0) (x := 236) (nx := 1) (r1 := 0) (r2 := 0) (r3 := 0) rfl rfl ?_
      refine wi_iload_n (i := 1) (e := 0) (nx := 2) (r1 := 0) (r2 := 0) (r3 := 0) rfl rfl ?_
      refine wi_if (cd := .ne) (nx := 5) (r1 := 9) (r2 := 0) (r3 := 0) rfl (by omega) (fun (q7 : 0 ≠ 0) => by exfalso; omega) (fun (q7 : ¬ (0 ≠ 0)) => ?_)
      refine wi_iconst (n := 1) (nx := 6) (r1 := 0) (r2 := 0) (r3 := 0) rfl ?_
      refine wi_goto (nx := 9) (r1 := 10) (r2 := 0) (r3 := 0) rfl ?_
      refine wi_S (rest := [.ref 236]) (as := [vi 1]) (nx := 13) (r1 := 207) (r2 := 17) (r3 := 0) rfl rfl rfl (of_decide_eq_true rfl) rfl rfl (of_decide_eq_true rfl) (of_decide_eq_true rfl) ?_
      refine wi_iload_n (i := 0) (e := 1) (nx := 1) (r1 := 0) (r2 := 0) (r3 := 0) rfl rfl ?_
      refine wi_if (cd := .eq) (nx := 4) (r1 := 8) (r2 := 0) (r3 := 0) rfl (by omega) (fun (q8 : 1 = 0) => by exfalso; omega) (fun (q8 : ¬ (1 = 0)) => ?_)
      refine wi_iconst (n := 1) (nx := 5) (r1 := 0) (r2 := 0) (r3 := 0) rfl ?_
      refine wi_goto (nx := 8) (r1 := 9) (r2 := 0) (r3 := 0) rfl ?_
      refine wi_ireturn (nx := 10) (r1 := 0) (r2 := 0) (r3 := 0) rfl rfl ?_
      refine wk_i ?_
      refine wr_pf0 (k0 := 236) (x := 1) (bl := 0) (bh := 2) (nx := 16) (r1 := 11) (r2 := 0) (r3 := 0) rfl (by decide) rfl ⟨rfl, rfl⟩ rfl rfl g rfl (by omega) (fun h9 g9 w9 u9 => ?_)
      have F10 := F0.then rfl u9
      refine wi_iload_n (i := 1) (e := 0) (nx := 17) (r1 := 0) (r2 := 0) (r3 := 0) rfl rfl ?_
      refine wi_zreturn (nx := 18) (r1 := 0) (r2 := 0) (r3 := 0) rfl rfl (by omega) ?_
      refine wk_i ?_
      refine wi_if (cd := .eq) (nx := 12) (r1 := 24) (r2 := 0) (r3 := 0) rfl (by omega) (fun (q11 : 0 = 0) => ?_) (fun (q11 : ¬ (0 = 0)) => by exfalso; omega)
      refine wi_iconst (n := 0) (nx := 25) (r1 := 0) (r2 := 0) (r3 := 0) rfl ?_
      refine wi_ireturn (nx := 26) (r1 := 0) (r2 := 0) (r3 := 0) rfl rfl ?_
      have e12 : h9 236 0 = 1 := w9
      exact k h9 0 g9 F10 (by omega) (show (0 ≤ a0 ∧ a0 < (h 238 2) ∧ (h9 236 0) = 0) ∨ ((a0 < 0 ∨ (h 238 2) ≤ a0) ∧ (h9 236 0) = 1) by omega) (fun e1 e2 => by exfalso; omega)
    ·
      refine wi_iconst (n := 1) (nx := 14) (r1 := 0) (r2 := 0) (r3 := 0) rfl ?_
      refine wi_goto (nx := 17) (r1 := 18) (r2 := 0) (r3 := 0) rfl ?_
      refine wi_zreturn (nx := 19) (r1 := 0) (r2 := 0) (r3 := 0) rfl rfl (by omega) ?_
      refine wk_i ?_
      refine wi_zreturn (nx := 16) (r1 := 0) (r2 := 0) (r3 := 0) rfl rfl (by omega) ?_
      refine wk_i ?_
      refine wr_V (k0 := 236) (rest := []) (as := [.ref 236, vi 1]) (nx := 9) (r1 := 206) (r2 := 1) (r3 := 11) rfl rfl rfl (of_decide_eq_true rfl) rfl rfl (by decide) rfl rfl (of_decide_eq_true rfl) (of_decide_eq_true rfl) ?_
      refine wi_aload_n (i := 0) (x := 236) (nx := 1) (r1 := 0) (r2 := 0) (r3 := 0) rfl rfl ?_
      refine wi_iload_n (i := 1) (e := 1) (nx := 2) (r1 := 0) (r2 := 0) (r3 := 0) rfl rfl ?_
      refine wi_if (cd := .ne) (nx := 5) (r1 := 9) (r2 := 0) (r3 := 0) rfl (by omega) (fun (q7 : 1 ≠ 0) => ?_) (fun (q7 : ¬ (1 ≠ 0)) => by exfalso; omega)
      refine wi_iconst (n := 0) (nx := 10) (r1 := 0) (r2 := 0) (r3 := 0) rfl ?_
      refine wi_S (rest := [.ref 236]) (as := [vi 0]) (nx := 13) (r1 := 207) (r2 := 17) (r3 := 0) rfl rfl rfl (of_decide_eq_true rfl) rfl rfl (of_decide_eq_true rfl) (of_decide_eq_true rfl) ?_
      refine wi_iload_n (i := 0) (e := 0) (nx := 1) (r1 := 0) (r2 := 0) (r3 := 0) rfl rfl ?_
      refine wi_if (cd := .eq) (nx := 4) (r1 := 8) (r2 := 0) (r3 := 0) rfl (by omega) (fun (q8 : 0 = 0) => ?_) (fun (q8 : ¬ (0 = 0)) => by exfalso; omega)
      refine wi_iconst (n := 0) (nx := 9) (r1 := 0) (r2 := 0) (r3 := 0) rfl ?_
      refine wi_ireturn (nx := 10) (r1 := 0) (r2 := 0) (r3 := 0) rfl rfl ?_
      refine wk_i ?_
      refine wr_pf0 (k0 := 236) (x := 0) (bl := 0) (bh := 2) (nx := 16) (r1 := 11) (r2 := 0) (r3 := 0) rfl (by decide) rfl ⟨rfl, rfl⟩ rfl rfl g rfl (by omega) (fun h9 g9 w9 u9 => ?_)
      have F10 := F0.then rfl u9
      refine wi_iload_n (i := 1) (e := 1) (nx := 17) (r1 := 0) (r2 := 0) (r3 := 0) rfl rfl ?_
      refine wi_zreturn (nx := 18) (r1 := 0) (r2 := 0) (r3 := 0) rfl rfl (by omega) ?_
      refine wk_i ?_
      refine wi_if (cd := .eq) (nx := 12) (r1 := 24) (r2 := 0) (r3 := 0) rfl (by omega) (fun (q11 : 1 = 0) => by exfalso; omega) (fun (q11 : ¬ (1 = 0)) => ?_)
      refine wi_aload_n (i := 0) (x := 236) (nx := 13) (r1 := 0) (r2 := 0) (r3 := 0) rfl rfl ?_
      refine wr_gr (k0 := 236) (x := 238) (nx := 16) (r1 := 11) (r2 := 13) (r3 := 0) rfl rfl (by decide) rfl ⟨rfl, rfl⟩ rfl ?_
      refine wi_bipush (n := 19) (nx := 18) (r1 := 0) (r2 := 0) (r3 := 0) rfl (by decide) ?_
      refine wi_iload_n (i := 1) (e := a0) (nx := 19) (r1 := 0) (r2 := 0) (r3 := 0) rfl rfl ?_
      refine wr_add (nx := 20) (r1 := 0) (r2 := 0) (r3 := 0) rfl (fun e12 (fe12 : e12 = 19 + a0) => ?_)
      obtain ⟨i13, ei13⟩ : ∃ q : Nat, e12 = (q : Int) := ⟨(e12).toNat, by omega⟩
      have b14 := gi_b (lo := 0) (hi := 999) g 238 i13 (gi_rg 19 12 (fun _ => rfl) (by decide +kernel) (by omega))
      refine wr_ia (k0 := 238) (a := e12) (f := i13) (x := h 238 i13) (nx := 21) (r1 := 0) (r2 := 0) (r3 := 0) rfl (by decide) rfl (by omega) (by omega) (by decide) (u9 238 i13 (fn_a (by omega) fn_0)) ?_
      refine wi_goto (nx := 24) (r1 := 25) (r2 := 0) (r3 := 0) rfl ?_
      refine wi_ireturn (nx := 26) (r1 := 0) (r2 := 0) (r3 := 0) rfl rfl ?_
      have e15 : h9 236 0 = 0 := w9
      exact k h9 (h 238 i13) g9 F10 (by omega) (show (0 ≤ a0 ∧ a0 < (h 238 2) ∧ (h9 236 0) = 0) ∨ ((a0 < 0 ∨ (h 238 2) ≤ a0) ∧ (h9 236 0) = 1) by omega) (fun _ _ => (show h 238 i13 = h 238 (19 + a0.toNat) by rw [show (19 + a0.toNat) = i13 by omega]))
-- method 252: Model.whereIs(I)I
set_option maxRecDepth 100000 in
set_option maxHeartbeats 100000000 in
theorem ct_252_236 {L : Nat} {xs : Nat → Int32} {d b c : Nat} {h : hp} {cr : Nat → Nat → Option Nat} {Q : hp_Q} (hcr : CR cr)  (g : GI h) (a0 : Int) (q0_ : -2147483648 ≤ a0 ∧ a0 ≤ 2147483647)  (k : ∀ (z0 : Int), (0 ≤ z0 ∧ z0 ≤ 3) → Q (.inl (some (vi z0))) (hp_w h cr) b c) : wp (md_xa (L, xs)) (d + 2) 252 (0, [(0, .ref 236), (1, vi a0)], [], hp_w h cr, b, c) Q := by
  have F0 : FR [] h h := FR.refl
  refine wi_iload_n (i := 1) (e := a0) (nx := 1) (r1 := 0) (r2 := 0) (r3 := 0) rfl rfl ?_
  refine wi_aload_n (i := 0) (x := 236) (nx := 2) (r1 := 0) (r2 := 0) (r3 := 0) rfl rfl ?_
  refine wr_gr (k0 := 236) (x := 238) (nx := 5) (r1 := 11) (r2 := 13) (r3 := 0) rfl rfl (by decide) rfl ⟨rfl, rfl⟩ rfl ?_
  refine wi_bipush (n := 73) (nx := 7) (r1 := 0) (r2 := 0) (r3 := 0) rfl (by decide) ?_
  have b1 := gi_b (lo := 0) (hi := 12) g 238 73 rfl
  refine wr_ia (k0 := 238) (a := 73) (f := 73) (x := h 238 73) (nx := 8) (r1 := 0) (r2 := 0) (r3 := 0) rfl (by decide) rfl (by omega) (by omega) (by decide) rfl ?_
  refine wi_icmp (cd := .lt) (nx := 11) (r1 := 13) (r2 := 0) (r3 := 0) rfl (by omega) (by omega) (fun (q2 : a0 < (h 238 73)) => ?_) (fun (q2 : ¬ (a0 < (h 238 73))) => ?_)
  ·
    refine wi_aload_n (i := 0) (x := 236) (nx := 14) (r1 := 0) (r2 := 0) (r3 := 0) rfl rfl ?_
    refine wi_iload_n (i := 1) (e := a0) (nx := 15) (r1 := 0) (r2 := 0) (r3 := 0) rfl rfl ?_
    refine wr_V (k0 := 236) (rest := []) (as := [.ref 236, vi a0]) (nx := 18) (r1 := 253) (r2 := 1) (r3 := 11) rfl rfl rfl (of_decide_eq_true rfl) rfl rfl (by decide) rfl rfl (of_decide_eq_true rfl) (of_decide_eq_true rfl) ?_
    refine wi_aload_n (i := 0) (x := 236) (nx := 1) (r1 := 0) (r2 := 0) (r3 := 0) rfl rfl ?_
    refine wi_bipush (n := 107) (nx := 3) (r1 := 0) (r2 := 0) (r3 := 0) rfl (by decide) ?_
    refine wi_aload_n (i := 0) (x := 236) (nx := 4) (r1 := 0) (r2 := 0) (r3 := 0) rfl rfl ?_
    refine wr_gr (k0 := 236) (x := 238) (nx := 7) (r1 := 11) (r2 := 13) (r3 := 0) rfl rfl (by decide) rfl ⟨rfl, rfl⟩ rfl ?_
    refine wi_bipush (n := 106) (nx := 9) (r1 := 0) (r2 := 0) (r3 := 0) rfl (by decide) ?_
    have b3 := gi_b (lo := 0) (hi := 12) g 238 106 rfl
    refine wr_ia (k0 := 238) (a := 106) (f := 106) (x := h 238 106) (nx := 10) (r1 := 0) (r2 := 0) (r3 := 0) rfl (by decide) rfl (by omega) (by omega) (by decide) rfl ?_
    refine wi_iload_n (i := 1) (e := a0) (nx := 11) (r1 := 0) (r2 := 0) (r3 := 0) rfl rfl ?_
    refine wr_V (k0 := 236) (rest := []) (as := [.ref 236, vi 107, vi (h 238 106), vi a0]) (nx := 14) (r1 := 254) (r2 := 3) (r3 := 11) rfl rfl rfl (of_decide_eq_true rfl) rfl rfl (by decide) rfl rfl (of_decide_eq_true rfl) (of_decide_eq_true rfl) ?_
    refine wi_iconst (n := 0) (nx := 1) (r1 := 0) (r2 := 0) (r3 := 0) rfl ?_
    refine wi_istore (i := 4) (e := 0) (lo2 := [(4, vi 0), (0, .ref 236), (1, vi 107), (2, vi (h 238 106)), (3, vi a0)]) (nx := 3) (r1 := 0) (r2 := 0) (r3 := 0) rfl rfl ?_
    refine wp.lo (lo := [(0, .ref 236), (1, vi 107), (2, vi (h 238 106)), (3, vi a0), (4, vi 0)]) ⟨rfl, rfl, rfl, rfl, rfl, trivial⟩ rfl ?_
    refine wl_1 (fun x4 h5 => h = h5 ∧ ((0 ≤ x4 ∧ x4 ≤ 12))) (fun x4 h5 => ((12 : Int) + 1 - x4).toNat) (fun x4 h5 => (3, [(0, .ref 236), (1, vi 107), (2, vi (h 238 106)), (3, vi a0), (4, vi x4)], [], hp_w h5 cr, b, c)) ?_ 0 h ⟨rfl, (show (0 ≤ 0 ∧ 0 ≤ 12) by omega)⟩
    intro x4 h5 ⟨e5, f5⟩ I5
    subst e5
    refine wi_iload (i := 4) (e := x4) (nx := 5) (r1 := 0) (r2 := 0) (r3 := 0) rfl rfl ?_
    refine wi_iload_n (i := 2) (e := h 238 106) (nx := 6) (r1 := 0) (r2 := 0) (r3 := 0) rfl rfl ?_
    refine wi_icmp (cd := .ge) (nx := 9) (r1 := 31) (r2 := 0) (r3 := 0) rfl (by omega) (by omega) (fun (q7 : (h 238 106) ≤ x4) => ?_) (fun (q7 : ¬ ((h 238 106) ≤ x4)) => ?_)
    ·
      refine wi_iconst (n := (-1)) (nx := 32) (r1 := 0) (r2 := 0) (r3 := 0) rfl ?_
      refine wi_ireturn (nx := 33) (r1 := 0) (r2 := 0) (r3 := 0) rfl rfl ?_
      refine wk_i ?_
      refine wi_ireturn (nx := 15) (r1 := 0) (r2 := 0) (r3 := 0) rfl rfl ?_
      refine wk_i ?_
      refine wi_iconst (n := (-1)) (nx := 19) (r1 := 0) (r2 := 0) (r3 := 0) rfl ?_
      refine wi_icmp (cd := .eq) (nx := 22) (r1 := 24) (r2 := 0) (r3 := 0) rfl (by omega) (by omega) (fun (q8 : (-1) = (-1)) => ?_) (fun (q8 : ¬ ((-1) = (-1))) => by exfalso; omega)
      refine wi_aload_n (i := 0) (x := 236) (nx := 25) (r1 := 0) (r2 := 0) (r3 := 0) rfl rfl ?_
      refine wi_bipush (n := 103) (nx := 27) (r1 := 0) (r2 := 0) (r3 := 0) rfl (by decide) ?_
      refine wi_aload_n (i := 0) (x := 236) (nx := 28) (r1 := 0) (r2 := 0) (r3 := 0) rfl rfl ?_
      refine wr_gr (k0 := 236) (x := 238) (nx := 31) (r1 := 11) (r2 := 13) (r3 := 0) rfl rfl (by decide) rfl ⟨rfl, rfl⟩ rfl ?_
      refine wi_bipush (n := 102) (nx := 33) (r1 := 0) (r2 := 0) (r3 := 0) rfl (by decide) ?_
      have b9 := gi_b (lo := 0) (hi := 3) g 238 102 rfl
      refine wr_ia (k0 := 238) (a := 102) (f := 102) (x := h 238 102) (nx := 34) (r1 := 0) (r2 := 0) (r3 := 0) rfl (by decide) rfl (by omega) (by omega) (by decide) rfl ?_
      refine wi_iload_n (i := 1) (e := a0) (nx := 35) (r1 := 0) (r2 := 0) (r3 := 0) rfl rfl ?_
      refine wr_V (k0 := 236) (rest := []) (as := [.ref 236, vi 103, vi (h 238 102), vi a0]) (nx := 38) (r1 := 254) (r2 := 3) (r3 := 11) rfl rfl rfl (of_decide_eq_true rfl) rfl rfl (by decide) rfl rfl (of_decide_eq_true rfl) (of_decide_eq_true rfl) ?_
      refine wi_iconst (n := 0) (nx := 1) (r1 := 0) (r2 := 0) (r3 := 0) rfl ?_
      refine wi_istore (i := 4) (e := 0) (lo2 := [(4, vi 0), (0, .ref 236), (1, vi 103), (2, vi (h 238 102)), (3, vi a0)]) (nx := 3) (r1 := 0) (r2 := 0) (r3 := 0) rfl rfl ?_
      refine wp.lo (lo := [(0, .ref 236), (1, vi 103), (2, vi (h 238 102)), (3, vi a0), (4, vi 0)]) ⟨rfl, rfl, rfl, rfl, rfl, trivial⟩ rfl ?_
      refine wl_1 (fun x10 h11 => h = h11 ∧ ((0 ≤ x10 ∧ x10 ≤ 3))) (fun x10 h11 => ((3 : Int) + 1 - x10).toNat) (fun x10 h11 => (3, [(0, .ref 236), (1, vi 103), (2, vi (h 238 102)), (3, vi a0), (4, vi x10)], [], hp_w h11 cr, b, c)) ?_ 0 h ⟨rfl, (show (0 ≤ 0 ∧ 0 ≤ 3) by omega)⟩
      intro x10 h11 ⟨e11, f11⟩ I11
      subst e11
      refine wi_iload (i := 4) (e := x10) (nx := 5) (r1 := 0) (r2 := 0) (r3 := 0) rfl rfl ?_
      refine wi_iload_n (i := 2) (e := h 238 102) (nx := 6) (r1 := 0) (r2 := 0) (r3 := 0) rfl rfl ?_
      refine wi_icmp (cd := .ge) (nx := 9) (r1 := 31) (r2 := 0) (r3 := 0) rfl (by omega) (by omega) (fun (q13 : (h 238 102) ≤ x10) => ?_) (fun (q13 : ¬ ((h 238 102) ≤ x10)) => ?_)
      ·
        refine wi_iconst (n := (-1)) (nx := 32) (r1 := 0) (r2 := 0) (r3 := 0) rfl ?_
        refine wi_ireturn (nx := 33) (r1 := 0) (r2 := 0) (r3 := 0) rfl rfl ?_
        refine wk_i ?_
        refine wi_iconst (n := (-1)) (nx := 39) (r1 := 0) (r2 := 0) (r3 := 0) rfl ?_
        refine wi_icmp (cd := .eq) (nx := 42) (r1 := 46) (r2 := 0) (r3 := 0) rfl (by omega) (by omega) (fun (q14 : (-1) = (-1)) => ?_) (fun (q14 : ¬ ((-1) = (-1))) => by exfalso; omega)
        refine wi_iconst (n := 1) (nx := 47) (r1 := 0) (r2 := 0) (r3 := 0) rfl ?_
        refine wi_ireturn (nx := 48) (r1 := 0) (r2 := 0) (r3 := 0) rfl rfl ?_
        exact k 1 (by omega)
      ·
        refine wi_aload_n (i := 0) (x := 236) (nx := 10) (r1 := 0) (r2 := 0) (r3 := 0) rfl rfl ?_
        refine wr_gr (k0 := 236) (x := 238) (nx := 13) (r1 := 11) (r2 := 13) (r3 := 0) rfl rfl (by decide) rfl ⟨rfl, rfl⟩ rfl ?_
        refine wi_iload_n (i := 1) (e := 103) (nx := 14) (r1 := 0) (r2 := 0) (r3 := 0) rfl rfl ?_
        refine wi_iload (i := 4) (e := x10) (nx := 16) (r1 := 0) (r2 := 0) (r3 := 0) rfl rfl ?_
        refine wr_add (nx := 17) (r1 := 0) (r2 := 0) (r3 := 0) rfl (fun e14 (fe14 : e14 = 103 + x10) => ?_)
        obtain ⟨i15, ei15⟩ : ∃ q : Nat, e14 = (q : Int) := ⟨(e14).toNat, by omega⟩
        have b16 := gi_b (lo := 0) (hi := 11) g 238 i15 (gi_rg 103 3 (fun _ => rfl) (by decide +kernel) (by omega))
        refine wr_ia (k0 := 238) (a := e14) (f := i15) (x := h 238 i15) (nx := 18) (r1 := 0) (r2 := 0) (r3 := 0) rfl (by decide) rfl (by omega) (by omega) (by decide) rfl ?_
        refine wi_iload_n (i := 3) (e := a0) (nx := 19) (r1 := 0) (r2 := 0) (r3 := 0) rfl rfl ?_
        refine wi_icmp (cd := .ne) (nx := 22) (r1 := 25) (r2 := 0) (r3 := 0) rfl (by omega) (by omega) (fun (q17 : (h 238 i15) ≠ a0) => ?_) (fun (q17 : ¬ ((h 238 i15) ≠ a0)) => ?_)
        ·
          refine wr_iinc (i := 4) (n := 1) (v := x10) (fun e18 => [(4, vi e18), (0, .ref 236), (1, vi 103), (2, vi (h 238 102)), (3, vi a0)]) (nx := 28) (r1 := 0) (r2 := 0) (r3 := 0) rfl rfl (fun _ => rfl) (fun e18 (fe18 : e18 = x10 + 1) => ?_)
          refine wi_goto (nx := 31) (r1 := 3) (r2 := 0) (r3 := 0) rfl ?_
          refine wp.lo (lo := [(0, .ref 236), (1, vi 103), (2, vi (h 238 102)), (3, vi a0), (4, vi e18)]) ⟨rfl, rfl, rfl, rfl, rfl, trivial⟩ rfl ?_
          exact I11 e18 h ⟨rfl, (show (0 ≤ e18 ∧ e18 ≤ 3) by omega)⟩ (show ((3 : Int) + 1 - e18).toNat < ((3 : Int) + 1 - x10).toNat by omega)
        ·
          refine wi_iload (i := 4) (e := x10) (nx := 24) (r1 := 0) (r2 := 0) (r3 := 0) rfl rfl ?_
          refine wi_ireturn (nx := 25) (r1 := 0) (r2 := 0) (r3 := 0) rfl rfl ?_
          refine wk_i ?_
          refine wi_iconst (n := (-1)) (nx := 39) (r1 := 0) (r2 := 0) (r3 := 0) rfl ?_
          refine wi_icmp (cd := .eq) (nx := 42) (r1 := 46) (r2 := 0) (r3 := 0) rfl (by omega) (by omega) (fun (q18 : x10 = (-1)) => by exfalso; omega) (fun (q18 : ¬ (x10 = (-1))) => ?_)
          refine wi_iconst (n := 2) (nx := 43) (r1 := 0) (r2 := 0) (r3 := 0) rfl ?_
          refine wi_goto (nx := 46) (r1 := 47) (r2 := 0) (r3 := 0) rfl ?_
          refine wi_ireturn (nx := 48) (r1 := 0) (r2 := 0) (r3 := 0) rfl rfl ?_
          exact k 2 (by omega)
    ·
      refine wi_aload_n (i := 0) (x := 236) (nx := 10) (r1 := 0) (r2 := 0) (r3 := 0) rfl rfl ?_
      refine wr_gr (k0 := 236) (x := 238) (nx := 13) (r1 := 11) (r2 := 13) (r3 := 0) rfl rfl (by decide) rfl ⟨rfl, rfl⟩ rfl ?_
      refine wi_iload_n (i := 1) (e := 107) (nx := 14) (r1 := 0) (r2 := 0) (r3 := 0) rfl rfl ?_
      refine wi_iload (i := 4) (e := x4) (nx := 16) (r1 := 0) (r2 := 0) (r3 := 0) rfl rfl ?_
      refine wr_add (nx := 17) (r1 := 0) (r2 := 0) (r3 := 0) rfl (fun e8 (fe8 : e8 = 107 + x4) => ?_)
      obtain ⟨i9, ei9⟩ : ∃ q : Nat, e8 = (q : Int) := ⟨(e8).toNat, by omega⟩
      have b10 := gi_b (lo := 0) (hi := 11) g 238 i9 (gi_rg 107 12 (fun _ => rfl) (by decide +kernel) (by omega))
      refine wr_ia (k0 := 238) (a := e8) (f := i9) (x := h 238 i9) (nx := 18) (r1 := 0) (r2 := 0) (r3 := 0) rfl (by decide) rfl (by omega) (by omega) (by decide) rfl ?_
      refine wi_iload_n (i := 3) (e := a0) (nx := 19) (r1 := 0) (r2 := 0) (r3 := 0) rfl rfl ?_
      refine wi_icmp (cd := .ne) (nx := 22) (r1 := 25) (r2 := 0) (r3 := 0) rfl (by omega) (by omega) (fun (q11 : (h 238 i9) ≠ a0) => ?_) (fun (q11 : ¬ ((h 238 i9) ≠ a0)) => ?_)
      ·
        refine wr_iinc (i := 4) (n := 1) (v := x4) (fun e12 => [(4, vi e12), (0, .ref 236), (1, vi 107), (2, vi (h 238 106)), (3, vi a0)]) (nx := 28) (r1 := 0) (r2 := 0) (r3 := 0) rfl rfl (fun _ => rfl) (fun e12 (fe12 : e12 = x4 + 1) => ?_)
        refine wi_goto (nx := 31) (r1 := 3) (r2 := 0) (r3 := 0) rfl ?_
        refine wp.lo (lo := [(0, .ref 236), (1, vi 107), (2, vi (h 238 106)), (3, vi a0), (4, vi e12)]) ⟨rfl, rfl, rfl, rfl, rfl, trivial⟩ rfl ?_
        exact I5 e12 h ⟨rfl, (show (0 ≤ e12 ∧ e12 ≤ 12) by omega)⟩ (show ((12 : Int) + 1 - e12).toNat < ((12 : Int) + 1 - x4).toNat by omega)
      ·
        refine wi_iload (i := 4) (e := x4) (nx := 24) (r1 := 0) (r2 := 0) (r3 := 0) rfl rfl ?_
        refine wi_ireturn (nx := 25) (r1 := 0) (r2 := 0) (r3 := 0) rfl rfl ?_
        refine wk_i ?_
        refine wi_ireturn (nx := 15) (r1 := 0) (r2 := 0) (r3 := 0) rfl rfl ?_
        refine wk_i ?_
        refine wi_iconst (n := (-1)) (nx := 19) (r1 := 0) (r2 := 0) (r3 := 0) rfl ?_
        refine wi_icmp (cd := .eq) (nx := 22) (r1 := 24) (r2 := 0) (r3 := 0) rfl (by omega) (by omega) (fun (q12 : x4 = (-1)) => by exfalso; omega) (fun (q12 : ¬ (x4 = (-1))) => ?_)
        refine wi_iconst (n := 3) (nx := 23) (r1 := 0) (r2 := 0) (r3 := 0) rfl ?_
        refine wi_ireturn (nx := 24) (r1 := 0) (r2 := 0) (r3 := 0) rfl rfl ?_
        exact k 3 (by omega)
  ·
    refine wi_iconst (n := 0) (nx := 12) (r1 := 0) (r2 := 0) (r3 := 0) rfl ?_
    refine wi_ireturn (nx := 13) (r1 := 0) (r2 := 0) (r3 := 0) rfl rfl ?_
    exact k 0 (by omega)
