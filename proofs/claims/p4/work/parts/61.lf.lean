-- the law, case at 1529
set_option maxRecDepth 100000 in
set_option maxHeartbeats 100000000 in
theorem lc_1529 {L : Nat} {xs : Nat → Int32} {d b c : Nat} {h : hp} {cr : Nat → Nat → Option Nat} {Q : hp_Q} (hcr : CR cr) (hL : L ≤ 3072) (hr : 1 ≤ b ∧ 6 ≤ c) (I : LI h) (i : Int) (hi : 0 ≤ i ∧ i + 6 ≤ L) (k : ∀ (h2 : hp) (b2 c2 : Nat), LI h2 → b ≤ b2 + 1 → c ≤ c2 + 6 → wp (md_xa (L, xs)) (d + 107) 0 (1529, [(0, .ref 1000000), (1, .ref 0), (2, .ref 236), (3, .ref 259), (4, vi i)], [], hp_w h2 cr, b2, c2) Q) : wp (md_xa (L, xs)) (d + 107) 0 (1529, [(0, .ref 1000000), (1, .ref 0), (2, .ref 236), (3, .ref 259), (4, vi i)], [], hp_w h cr, b, c) Q := by
  obtain ⟨g, i11, r238, r241, gp0, br0, er2, er3, sv0, sf0, ss0, gs0⟩ := I
  have r238e := r238.e0
  have r241e := r241.e0
  obtain ⟨⟨se0, se1, se2, se3, se4, se5, se6, se7, se8, se9⟩, -⟩ := id sv0
  have b1 := gi_b (lo := 0) (hi := 5) g 3 0 rfl
  have b2 := gi_b (lo := 0) (hi := 5) g 238 0 rfl
  have b3 := gi_b (lo := 0) (hi := 4) g 3 1 rfl
  have b4 := gi_b (lo := 0) (hi := 4) g 238 1 rfl
  have b5 := gi_b (lo := 0) (hi := 12) g 3 2 rfl
  have b6 := gi_b (lo := 0) (hi := 12) g 238 2 rfl
  have b7 := gi_b (lo := -2147483648) (hi := 2147483647) g 3 3 rfl
  have b8 := gi_b (lo := 0) (hi := 999) g 238 3 rfl
  have b9 := gi_b (lo := -2147483648) (hi := 2147483647) g 3 4 rfl
  have b10 := gi_b (lo := 0) (hi := 999) g 238 4 rfl
  have b11 := gi_b (lo := -2147483648) (hi := 2147483647) g 3 5 rfl
  have b12 := gi_b (lo := 0) (hi := 9) g 238 5 rfl
  have b13 := gi_b (lo := -2147483648) (hi := 2147483647) g 3 6 rfl
  have b14 := gi_b (lo := 0) (hi := 999) g 238 6 rfl
  have b15 := gi_b (lo := -2147483648) (hi := 2147483647) g 3 7 rfl
  have b16 := gi_b (lo := 0) (hi := 3) g 238 7 rfl
  have b17 := gi_b (lo := -2147483648) (hi := 2147483647) g 3 8 rfl
  have b18 := gi_b (lo := 0) (hi := 999) g 238 8 rfl
  have b19 := gi_b (lo := -2147483648) (hi := 2147483647) g 3 9 rfl
  have b20 := gi_b (lo := 0) (hi := 999) g 238 9 rfl
  have b21 := gi_b (lo := 0) (hi := 1) g 0 12 rfl
  have b22 := gi_b (lo := 0) (hi := 1) g 236 21 rfl
  have bl_ := gi_b (lo := 0) (hi := 800) g 1 1 rfl
  have tb0 : BufC (h 2) (h 1 1) h := ⟨fun _ => rfl, rfl, by omega, by omega⟩
  have b23 := gi_b (lo := 0) (hi := 6) g 238 98 rfl
  have b24 := gi_b (lo := 0) (hi := 6) g 238 99 rfl
  have b25 := gi_b (lo := 0) (hi := 6) g 238 100 rfl
  have b26 := gi_b (lo := 0) (hi := 6) g 238 101 rfl
  have b27 := gi_b (lo := 0) (hi := 3) g 238 102 rfl
  have b28 := gi_b (lo := 0) (hi := 12) g 238 106 rfl
  have b29 := gi_b (lo := 0) (hi := 12) g 238 73 rfl
  have b30 := gi_b (lo := 0) (hi := 9999) g 238 119 rfl
  have b31 := gi_b (lo := 0) (hi := 9999) g 238 67 rfl
  have b32 := gi_b (lo := 0) (hi := 9) g 238 69 rfl
  have b33 := gi_b (lo := 0) (hi := 6) g 241 98 rfl
  have b34 := gi_b (lo := 0) (hi := 6) g 241 99 rfl
  have b35 := gi_b (lo := 0) (hi := 6) g 241 100 rfl
  have b36 := gi_b (lo := 0) (hi := 6) g 241 101 rfl
  have b37 := gi_b (lo := 0) (hi := 3) g 241 102 rfl
  have b38 := gi_b (lo := 0) (hi := 12) g 241 106 rfl
  have b39 := gi_b (lo := 0) (hi := 12) g 241 73 rfl
  have b40 := gi_b (lo := 0) (hi := 12) g 241 2 rfl
  have b41 := gi_b (lo := 0) (hi := 9999) g 241 119 rfl
  have b42 := gi_b (lo := 0) (hi := 9999) g 241 67 rfl
  have b43 := gi_b (lo := 0) (hi := 9) g 241 69 rfl
  have b44 := gi_b (lo := 0) (hi := 9) g 241 5 rfl
  have b45 := gi_b (lo := 0) (hi := 800) g 1 1 rfl
  have b46 := gi_b (lo := 0) (hi := 800) g 236 2 rfl
  have b47 := gi_b (lo := -2147483648) (hi := 2147483647) g 1 2 rfl
  have b48 := gi_b (lo := -2147483648) (hi := 2147483647) g 236 10 rfl
  have b49 := gi_b (lo := -2147483648) (hi := 2147483647) g 1 3 rfl
  have b50 := gi_b (lo := -2147483648) (hi := 2147483647) g 236 11 rfl
  have b51 := gi_b (lo := 0) (hi := 5) g 241 0 rfl
  have b52 := gi_b (lo := 0) (hi := 4) g 241 1 rfl
  exact k h b c ⟨g, (show h 1 1 = h 236 2 by omega), (RS.i0 (f := h 238) (by refine ⟨?_, ?_, ?_, ?_, ?_⟩ <;> omega)), (RS.i0 (f := h 241) (by refine ⟨?_, ?_, ?_, ?_, ?_⟩ <;> omega)), gp0, (BRh.keep br0 (fun i => rfl) (fun i => rfl) (by omega)), (show h 1 2 = h 236 10 by omega), (show h 1 3 = h 236 11 by omega), (SVx.keep sv0 (by omega) (fun i _ => rfl) (fun i _ => rfl) (fun i _ => rfl) (fun i _ => rfl) (fun i _ => rfl)), (show h 0 12 = h 236 21 by omega), (fun e => (SVx.keep (ss0 (by omega)) (by omega) (fun i _ => rfl) (fun i _ => rfl) (fun i _ => rfl) (fun i _ => rfl) (fun i _ => rfl))), gs0⟩ (by omega) (by omega)
set_option maxRecDepth 100000 in
set_option maxHeartbeats 100000000 in
theorem lc_loop {L : Nat} {xs : Nat → Int32} {d : Nat} {cr : Nat → Nat → Option Nat} {Q : hp_Q} (hcr : CR cr) (hL : L ≤ 3072) (hQ : ∀ W b c, Q (.inl (some (vi 1))) W b c) (h : hp) (b c : Nat) (I : LI h) (hb : 3072 ≤ b) (hc : 6 * 3072 ≤ c) : wp (md_xa (L, xs)) (d + 107) 0 (23, [(0, .ref 1000000), (1, .ref 0), (2, .ref 236), (3, .ref 259), (4, vi 0)], [], hp_w h cr, b, c) Q := by
  refine wl_law (F := fun i W b c => (23, [(0, .ref 1000000), (1, .ref 0), (2, .ref 236), (3, .ref 259), (4, vi i)], [], W, b, c)) ?_ h b c I hb hc
  intro i h b c I h0 h1 hb hc k
  have hr : i + 6 ≤ L → 1 ≤ b ∧ 6 ≤ c := fun e => by omega
  refine wi_iload (i := 4) (e := i) (nx := 25) (r1 := 0) (r2 := 0) (r3 := 0) rfl rfl ?_
  refine wi_aload_n (i := 0) (x := 1000000) (nx := 26) (r1 := 0) (r2 := 0) (r3 := 0) rfl rfl ?_
  refine wr_xl (k0 := 1000000) (e := (L : Int)) (nx := 27) (r1 := 0) (r2 := 0) (r3 := 0) rfl (by decide) rfl rfl ?_
  refine wi_bipush (n := 6) (nx := 29) (r1 := 0) (r2 := 0) (r3 := 0) rfl (by decide) ?_
  refine wr_sub (nx := 30) (r1 := 0) (r2 := 0) (r3 := 0) rfl (fun e1 (fe1 : e1 = ((L : Int)) - 6) => ?_)
  refine wi_icmp (cd := .gt) (nx := 33) (r1 := 1535) (r2 := 0) (r3 := 0) rfl (by omega) (by omega) (fun (q2 : e1 < i) => ?_) (fun (q2 : ¬ (e1 < i)) => ?_)
  ·
    refine wi_iconst (n := 1) (nx := 1536) (r1 := 0) (r2 := 0) (r3 := 0) rfl ?_
    refine wi_zreturn (nx := 1537) (r1 := 0) (r2 := 0) (r3 := 0) rfl rfl (by omega) ?_
    exact hQ _ _ _
  ·
    refine wi_aload_n (i := 0) (x := 1000000) (nx := 34) (r1 := 0) (r2 := 0) (r3 := 0) rfl rfl ?_
    refine wi_iload (i := 4) (e := i) (nx := 36) (r1 := 0) (r2 := 0) (r3 := 0) rfl rfl ?_
    obtain ⟨i3, ei3⟩ : ∃ q : Nat, i = (q : Int) := ⟨(i).toNat, by omega⟩
    have s4 := sc_b (xs i3)
    refine wr_sc (a := i) (f := i3) (nx := 37) (r1 := 0) (r2 := 0) (r3 := 0) rfl (by omega) (by omega) hL ?_
    refine wi_bipush (n := 63) (nx := 39) (r1 := 0) (r2 := 0) (r3 := 0) rfl (by decide) ?_
    refine wi_iandm (m := 63) (nx := 40) (r1 := 0) (r2 := 0) (r3 := 0) rfl (by decide) (by decide) (fun e5 (fe5 : 0 ≤ e5 ∧ e5 ≤ 63) => ?_)
    rcases (show e5 = 0 ∨ e5 = 1 ∨ e5 = 2 ∨ e5 = 3 ∨ e5 = 4 ∨ e5 = 5 ∨ e5 = 6 ∨ e5 = 7 ∨ e5 = 8 ∨ e5 = 9 ∨ e5 = 10 ∨ e5 = 11 ∨ e5 = 12 ∨ e5 = 13 ∨ e5 = 14 ∨ e5 = 15 ∨ e5 = 16 ∨ e5 = 17 ∨ e5 = 18 ∨ e5 = 19 ∨ e5 = 20 ∨ e5 = 21 ∨ e5 = 22 ∨ e5 = 23 ∨ e5 = 24 ∨ e5 = 25 ∨ e5 = 26 ∨ e5 = 27 ∨ e5 = 28 ∨ e5 = 29 ∨ e5 = 30 ∨ e5 = 31 ∨ e5 = 32 ∨ e5 = 33 ∨ e5 = 34 ∨ e5 = 35 ∨ e5 = 36 ∨ e5 = 37 ∨ e5 = 38 ∨ e5 = 39 ∨ e5 = 40 ∨ e5 = 41 ∨ e5 = 42 ∨ e5 = 43 ∨ e5 = 44 ∨ e5 = 45 ∨ e5 = 46 ∨ e5 = 47 ∨ e5 = 48 ∨ e5 = 49 ∨ e5 = 50 ∨ e5 = 51 ∨ e5 = 52 ∨ e5 = 53 ∨ e5 = 54 ∨ e5 = 55 ∨ e5 = 56 ∨ e5 = 57 ∨ (e5 ≠ 0 ∧ e5 ≠ 1 ∧ e5 ≠ 2 ∧ e5 ≠ 3 ∧ e5 ≠ 4 ∧ e5 ≠ 5 ∧ e5 ≠ 6 ∧ e5 ≠ 7 ∧ e5 ≠ 8 ∧ e5 ≠ 9 ∧ e5 ≠ 10 ∧ e5 ≠ 11 ∧ e5 ≠ 12 ∧ e5 ≠ 13 ∧ e5 ≠ 14 ∧ e5 ≠ 15 ∧ e5 ≠ 16 ∧ e5 ≠ 17 ∧ e5 ≠ 18 ∧ e5 ≠ 19 ∧ e5 ≠ 20 ∧ e5 ≠ 21 ∧ e5 ≠ 22 ∧ e5 ≠ 23 ∧ e5 ≠ 24 ∧ e5 ≠ 25 ∧ e5 ≠ 26 ∧ e5 ≠ 27 ∧ e5 ≠ 28 ∧ e5 ≠ 29 ∧ e5 ≠ 30 ∧ e5 ≠ 31 ∧ e5 ≠ 32 ∧ e5 ≠ 33 ∧ e5 ≠ 34 ∧ e5 ≠ 35 ∧ e5 ≠ 36 ∧ e5 ≠ 37 ∧ e5 ≠ 38 ∧ e5 ≠ 39 ∧ e5 ≠ 40 ∧ e5 ≠ 41 ∧ e5 ≠ 42 ∧ e5 ≠ 43 ∧ e5 ≠ 44 ∧ e5 ≠ 45 ∧ e5 ≠ 46 ∧ e5 ≠ 47 ∧ e5 ≠ 48 ∧ e5 ≠ 49 ∧ e5 ≠ 50 ∧ e5 ≠ 51 ∧ e5 ≠ 52 ∧ e5 ≠ 53 ∧ e5 ≠ 54 ∧ e5 ≠ 55 ∧ e5 ≠ 56 ∧ e5 ≠ 57) by omega) with q6 | q6 | q6 | q6 | q6 | q6 | q6 | q6 | q6 | q6 | q6 | q6 | q6 | q6 | q6 | q6 | q6 | q6 | q6 | q6 | q6 | q6 | q6 | q6 | q6 | q6 | q6 | q6 | q6 | q6 | q6 | q6 | q6 | q6 | q6 | q6 | q6 | q6 | q6 | q6 | q6 | q6 | q6 | q6 | q6 | q6 | q6 | q6 | q6 | q6 | q6 | q6 | q6 | q6 | q6 | q6 | q6 | q6 | q6
    ·
      refine wr_tsw 288 (nx := 248) (r1 := 0) (r2 := 0) (r3 := 0) rfl (by rw [q6]; rfl) ?_
      refine lc_288 hcr hL (hr (by omega)) I i (by omega) (fun h2 b2 c2 I2 hb2 hc2 => ?_)
      refine wr_iinc (i := 4) (n := 6) (v := i) (fun e => [(4, vi e), (0, .ref 1000000), (1, .ref 0), (2, .ref 236), (3, .ref 259)]) (nx := 1532) (r1 := 0) (r2 := 0) (r3 := 0) rfl rfl (fun _ => rfl) (fun e fe => ?_)
      refine wi_goto (nx := 1535) (r1 := 23) (r2 := 0) (r3 := 0) rfl ?_
      refine wp.lo (lo := [(0, .ref 1000000), (1, .ref 0), (2, .ref 236), (3, .ref 259), (4, vi e)]) ⟨rfl, rfl, rfl, rfl, rfl, trivial⟩ rfl ?_
      rw [fe]
      exact k h2 b2 c2 I2 (by omega) hb2 hc2
    ·
      refine wr_tsw 364 (nx := 248) (r1 := 0) (r2 := 0) (r3 := 0) rfl (by rw [q6]; rfl) ?_
      refine lc_364 hcr hL (hr (by omega)) I i (by omega) (fun h2 b2 c2 I2 hb2 hc2 => ?_)
      refine wr_iinc (i := 4) (n := 6) (v := i) (fun e => [(4, vi e), (0, .ref 1000000), (1, .ref 0), (2, .ref 236), (3, .ref 259)]) (nx := 1532) (r1 := 0) (r2 := 0) (r3 := 0) rfl rfl (fun _ => rfl) (fun e fe => ?_)
      refine wi_goto (nx := 1535) (r1 := 23) (r2 := 0) (r3 := 0) rfl ?_
      refine wp.lo (lo := [(0, .ref 1000000), (1, .ref 0), (2, .ref 236), (3, .ref 259), (4, vi e)]) ⟨rfl, rfl, rfl, rfl, rfl, trivial⟩ rfl ?_
      rw [fe]
      exact k h2 b2 c2 I2 (by omega) hb2 hc2
    ·
      refine wr_tsw 392 (nx := 248) (r1 := 0) (r2 := 0) (r3 := 0) rfl (by rw [q6]; rfl) ?_
      refine lc_392 hcr hL (hr (by omega)) I i (by omega) (fun h2 b2 c2 I2 hb2 hc2 => ?_)
      refine wr_iinc (i := 4) (n := 6) (v := i) (fun e => [(4, vi e), (0, .ref 1000000), (1, .ref 0), (2, .ref 236), (3, .ref 259)]) (nx := 1532) (r1 := 0) (r2 := 0) (r3 := 0) rfl rfl (fun _ => rfl) (fun e fe => ?_)
      refine wi_goto (nx := 1535) (r1 := 23) (r2 := 0) (r3 := 0) rfl ?_
      refine wp.lo (lo := [(0, .ref 1000000), (1, .ref 0), (2, .ref 236), (3, .ref 259), (4, vi e)]) ⟨rfl, rfl, rfl, rfl, rfl, trivial⟩ rfl ?_
      rw [fe]
      exact k h2 b2 c2 I2 (by omega) hb2 hc2
    ·
      refine wr_tsw 436 (nx := 248) (r1 := 0) (r2 := 0) (r3 := 0) rfl (by rw [q6]; rfl) ?_
      refine lc_436 hcr hL (hr (by omega)) I i (by omega) (fun h2 b2 c2 I2 hb2 hc2 => ?_)
      refine wr_iinc (i := 4) (n := 6) (v := i) (fun e => [(4, vi e), (0, .ref 1000000), (1, .ref 0), (2, .ref 236), (3, .ref 259)]) (nx := 1532) (r1 := 0) (r2 := 0) (r3 := 0) rfl rfl (fun _ => rfl) (fun e fe => ?_)
      refine wi_goto (nx := 1535) (r1 := 23) (r2 := 0) (r3 := 0) rfl ?_
      refine wp.lo (lo := [(0, .ref 1000000), (1, .ref 0), (2, .ref 236), (3, .ref 259), (4, vi e)]) ⟨rfl, rfl, rfl, rfl, rfl, trivial⟩ rfl ?_
      rw [fe]
      exact k h2 b2 c2 I2 (by omega) hb2 hc2
    ·
      refine wr_tsw 452 (nx := 248) (r1 := 0) (r2 := 0) (r3 := 0) rfl (by rw [q6]; rfl) ?_
      refine lc_452 hcr hL (hr (by omega)) I i (by omega) (fun h2 b2 c2 I2 hb2 hc2 => ?_)
      refine wr_iinc (i := 4) (n := 6) (v := i) (fun e => [(4, vi e), (0, .ref 1000000), (1, .ref 0), (2, .ref 236), (3, .ref 259)]) (nx := 1532) (r1 := 0) (r2 := 0) (r3 := 0) rfl rfl (fun _ => rfl) (fun e fe => ?_)
      refine wi_goto (nx := 1535) (r1 := 23) (r2 := 0) (r3 := 0) rfl ?_
      refine wp.lo (lo := [(0, .ref 1000000), (1, .ref 0), (2, .ref 236), (3, .ref 259), (4, vi e)]) ⟨rfl, rfl, rfl, rfl, rfl, trivial⟩ rfl ?_
      rw [fe]
      exact k h2 b2 c2 I2 (by omega) hb2 hc2
    ·
      refine wr_tsw 465 (nx := 248) (r1 := 0) (r2 := 0) (r3 := 0) rfl (by rw [q6]; rfl) ?_
      refine lc_465 hcr hL (hr (by omega)) I i (by omega) (fun h2 b2 c2 I2 hb2 hc2 => ?_)
      refine wr_iinc (i := 4) (n := 6) (v := i) (fun e => [(4, vi e), (0, .ref 1000000), (1, .ref 0), (2, .ref 236), (3, .ref 259)]) (nx := 1532) (r1 := 0) (r2 := 0) (r3 := 0) rfl rfl (fun _ => rfl) (fun e fe => ?_)
      refine wi_goto (nx := 1535) (r1 := 23) (r2 := 0) (r3 := 0) rfl ?_
      refine wp.lo (lo := [(0, .ref 1000000), (1, .ref 0), (2, .ref 236), (3, .ref 259), (4, vi e)]) ⟨rfl, rfl, rfl, rfl, rfl, trivial⟩ rfl ?_
      rw [fe]
      exact k h2 b2 c2 I2 (by omega) hb2 hc2
    ·
      refine wr_tsw 478 (nx := 248) (r1 := 0) (r2 := 0) (r3 := 0) rfl (by rw [q6]; rfl) ?_
      refine lc_478 hcr hL (hr (by omega)) I i (by omega) (fun h2 b2 c2 I2 hb2 hc2 => ?_)
      refine wr_iinc (i := 4) (n := 6) (v := i) (fun e => [(4, vi e), (0, .ref 1000000), (1, .ref 0), (2, .ref 236), (3, .ref 259)]) (nx := 1532) (r1 := 0) (r2 := 0) (r3 := 0) rfl rfl (fun _ => rfl) (fun e fe => ?_)
      refine wi_goto (nx := 1535) (r1 := 23) (r2 := 0) (r3 := 0) rfl ?_
      refine wp.lo (lo := [(0, .ref 1000000), (1, .ref 0), (2, .ref 236), (3, .ref 259), (4, vi e)]) ⟨rfl, rfl, rfl, rfl, rfl, trivial⟩ rfl ?_
      rw [fe]
      exact k h2 b2 c2 I2 (by omega) hb2 hc2
    ·
      refine wr_tsw 506 (nx := 248) (r1 := 0) (r2 := 0) (r3 := 0) rfl (by rw [q6]; rfl) ?_
      refine lc_506 hcr hL (hr (by omega)) I i (by omega) (fun h2 b2 c2 I2 hb2 hc2 => ?_)
      refine wr_iinc (i := 4) (n := 6) (v := i) (fun e => [(4, vi e), (0, .ref 1000000), (1, .ref 0), (2, .ref 236), (3, .ref 259)]) (nx := 1532) (r1 := 0) (r2 := 0) (r3 := 0) rfl rfl (fun _ => rfl) (fun e fe => ?_)
      refine wi_goto (nx := 1535) (r1 := 23) (r2 := 0) (r3 := 0) rfl ?_
      refine wp.lo (lo := [(0, .ref 1000000), (1, .ref 0), (2, .ref 236), (3, .ref 259), (4, vi e)]) ⟨rfl, rfl, rfl, rfl, rfl, trivial⟩ rfl ?_
      rw [fe]
      exact k h2 b2 c2 I2 (by omega) hb2 hc2
    ·
      refine wr_tsw 534 (nx := 248) (r1 := 0) (r2 := 0) (r3 := 0) rfl (by rw [q6]; rfl) ?_
      refine lc_534 hcr hL (hr (by omega)) I i (by omega) (fun h2 b2 c2 I2 hb2 hc2 => ?_)
      refine wr_iinc (i := 4) (n := 6) (v := i) (fun e => [(4, vi e), (0, .ref 1000000), (1, .ref 0), (2, .ref 236), (3, .ref 259)]) (nx := 1532) (r1 := 0) (r2 := 0) (r3 := 0) rfl rfl (fun _ => rfl) (fun e fe => ?_)
      refine wi_goto (nx := 1535) (r1 := 23) (r2 := 0) (r3 := 0) rfl ?_
      refine wp.lo (lo := [(0, .ref 1000000), (1, .ref 0), (2, .ref 236), (3, .ref 259), (4, vi e)]) ⟨rfl, rfl, rfl, rfl, rfl, trivial⟩ rfl ?_
      rw [fe]
      exact k h2 b2 c2 I2 (by omega) hb2 hc2
    ·
      refine wr_tsw 562 (nx := 248) (r1 := 0) (r2 := 0) (r3 := 0) rfl (by rw [q6]; rfl) ?_
      refine lc_562 hcr hL (hr (by omega)) I i (by omega) (fun h2 b2 c2 I2 hb2 hc2 => ?_)
      refine wr_iinc (i := 4) (n := 6) (v := i) (fun e => [(4, vi e), (0, .ref 1000000), (1, .ref 0), (2, .ref 236), (3, .ref 259)]) (nx := 1532) (r1 := 0) (r2 := 0) (r3 := 0) rfl rfl (fun _ => rfl) (fun e fe => ?_)
      refine wi_goto (nx := 1535) (r1 := 23) (r2 := 0) (r3 := 0) rfl ?_
      refine wp.lo (lo := [(0, .ref 1000000), (1, .ref 0), (2, .ref 236), (3, .ref 259), (4, vi e)]) ⟨rfl, rfl, rfl, rfl, rfl, trivial⟩ rfl ?_
      rw [fe]
      exact k h2 b2 c2 I2 (by omega) hb2 hc2
    ·
      refine wr_tsw 590 (nx := 248) (r1 := 0) (r2 := 0) (r3 := 0) rfl (by rw [q6]; rfl) ?_
      refine lc_590 hcr hL (hr (by omega)) I i (by omega) (fun h2 b2 c2 I2 hb2 hc2 => ?_)
      refine wr_iinc (i := 4) (n := 6) (v := i) (fun e => [(4, vi e), (0, .ref 1000000), (1, .ref 0), (2, .ref 236), (3, .ref 259)]) (nx := 1532) (r1 := 0) (r2 := 0) (r3 := 0) rfl rfl (fun _ => rfl) (fun e fe => ?_)
      refine wi_goto (nx := 1535) (r1 := 23) (r2 := 0) (r3 := 0) rfl ?_
      refine wp.lo (lo := [(0, .ref 1000000), (1, .ref 0), (2, .ref 236), (3, .ref 259), (4, vi e)]) ⟨rfl, rfl, rfl, rfl, rfl, trivial⟩ rfl ?_
      rw [fe]
      exact k h2 b2 c2 I2 (by omega) hb2 hc2
    ·
      refine wr_tsw 618 (nx := 248) (r1 := 0) (r2 := 0) (r3 := 0) rfl (by rw [q6]; rfl) ?_
      refine lc_618 hcr hL (hr (by omega)) I i (by omega) (fun h2 b2 c2 I2 hb2 hc2 => ?_)
      refine wr_iinc (i := 4) (n := 6) (v := i) (fun e => [(4, vi e), (0, .ref 1000000), (1, .ref 0), (2, .ref 236), (3, .ref 259)]) (nx := 1532) (r1 := 0) (r2 := 0) (r3 := 0) rfl rfl (fun _ => rfl) (fun e fe => ?_)
      refine wi_goto (nx := 1535) (r1 := 23) (r2 := 0) (r3 := 0) rfl ?_
      refine wp.lo (lo := [(0, .ref 1000000), (1, .ref 0), (2, .ref 236), (3, .ref 259), (4, vi e)]) ⟨rfl, rfl, rfl, rfl, rfl, trivial⟩ rfl ?_
      rw [fe]
      exact k h2 b2 c2 I2 (by omega) hb2 hc2
    ·
      refine wr_tsw 646 (nx := 248) (r1 := 0) (r2 := 0) (r3 := 0) rfl (by rw [q6]; rfl) ?_
      refine lc_646 hcr hL (hr (by omega)) I i (by omega) (fun h2 b2 c2 I2 hb2 hc2 => ?_)
      refine wr_iinc (i := 4) (n := 6) (v := i) (fun e => [(4, vi e), (0, .ref 1000000), (1, .ref 0), (2, .ref 236), (3, .ref 259)]) (nx := 1532) (r1 := 0) (r2 := 0) (r3 := 0) rfl rfl (fun _ => rfl) (fun e fe => ?_)
      refine wi_goto (nx := 1535) (r1 := 23) (r2 := 0) (r3 := 0) rfl ?_
      refine wp.lo (lo := [(0, .ref 1000000), (1, .ref 0), (2, .ref 236), (3, .ref 259), (4, vi e)]) ⟨rfl, rfl, rfl, rfl, rfl, trivial⟩ rfl ?_
      rw [fe]
      exact k h2 b2 c2 I2 (by omega) hb2 hc2
    ·
      refine wr_tsw 659 (nx := 248) (r1 := 0) (r2 := 0) (r3 := 0) rfl (by rw [q6]; rfl) ?_
      refine lc_659 hcr hL (hr (by omega)) I i (by omega) (fun h2 b2 c2 I2 hb2 hc2 => ?_)
      refine wr_iinc (i := 4) (n := 6) (v := i) (fun e => [(4, vi e), (0, .ref 1000000), (1, .ref 0), (2, .ref 236), (3, .ref 259)]) (nx := 1532) (r1 := 0) (r2 := 0) (r3 := 0) rfl rfl (fun _ => rfl) (fun e fe => ?_)
      refine wi_goto (nx := 1535) (r1 := 23) (r2 := 0) (r3 := 0) rfl ?_
      refine wp.lo (lo := [(0, .ref 1000000), (1, .ref 0), (2, .ref 236), (3, .ref 259), (4, vi e)]) ⟨rfl, rfl, rfl, rfl, rfl, trivial⟩ rfl ?_
      rw [fe]
      exact k h2 b2 c2 I2 (by omega) hb2 hc2
    ·
      refine wr_tsw 672 (nx := 248) (r1 := 0) (r2 := 0) (r3 := 0) rfl (by rw [q6]; rfl) ?_
      refine lc_672 hcr hL (hr (by omega)) I i (by omega) (fun h2 b2 c2 I2 hb2 hc2 => ?_)
      refine wr_iinc (i := 4) (n := 6) (v := i) (fun e => [(4, vi e), (0, .ref 1000000), (1, .ref 0), (2, .ref 236), (3, .ref 259)]) (nx := 1532) (r1 := 0) (r2 := 0) (r3 := 0) rfl rfl (fun _ => rfl) (fun e fe => ?_)
      refine wi_goto (nx := 1535) (r1 := 23) (r2 := 0) (r3 := 0) rfl ?_
      refine wp.lo (lo := [(0, .ref 1000000), (1, .ref 0), (2, .ref 236), (3, .ref 259), (4, vi e)]) ⟨rfl, rfl, rfl, rfl, rfl, trivial⟩ rfl ?_
      rw [fe]
      exact k h2 b2 c2 I2 (by omega) hb2 hc2
    ·
      refine wr_tsw 700 (nx := 248) (r1 := 0) (r2 := 0) (r3 := 0) rfl (by rw [q6]; rfl) ?_
      refine lc_700 hcr hL (hr (by omega)) I i (by omega) (fun h2 b2 c2 I2 hb2 hc2 => ?_)
      refine wr_iinc (i := 4) (n := 6) (v := i) (fun e => [(4, vi e), (0, .ref 1000000), (1, .ref 0), (2, .ref 236), (3, .ref 259)]) (nx := 1532) (r1 := 0) (r2 := 0) (r3 := 0) rfl rfl (fun _ => rfl) (fun e fe => ?_)
      refine wi_goto (nx := 1535) (r1 := 23) (r2 := 0) (r3 := 0) rfl ?_
      refine wp.lo (lo := [(0, .ref 1000000), (1, .ref 0), (2, .ref 236), (3, .ref 259), (4, vi e)]) ⟨rfl, rfl, rfl, rfl, rfl, trivial⟩ rfl ?_
      rw [fe]
      exact k h2 b2 c2 I2 (by omega) hb2 hc2
    ·
      refine wr_tsw 713 (nx := 248) (r1 := 0) (r2 := 0) (r3 := 0) rfl (by rw [q6]; rfl) ?_
      refine lc_713 hcr hL (hr (by omega)) I i (by omega) (fun h2 b2 c2 I2 hb2 hc2 => ?_)
      refine wr_iinc (i := 4) (n := 6) (v := i) (fun e => [(4, vi e), (0, .ref 1000000), (1, .ref 0), (2, .ref 236), (3, .ref 259)]) (nx := 1532) (r1 := 0) (r2 := 0) (r3 := 0) rfl rfl (fun _ => rfl) (fun e fe => ?_)
      refine wi_goto (nx := 1535) (r1 := 23) (r2 := 0) (r3 := 0) rfl ?_
      refine wp.lo (lo := [(0, .ref 1000000), (1, .ref 0), (2, .ref 236), (3, .ref 259), (4, vi e)]) ⟨rfl, rfl, rfl, rfl, rfl, trivial⟩ rfl ?_
      rw [fe]
      exact k h2 b2 c2 I2 (by omega) hb2 hc2
    ·
      refine wr_tsw 741 (nx := 248) (r1 := 0) (r2 := 0) (r3 := 0) rfl (by rw [q6]; rfl) ?_
      refine lc_741 hcr hL (hr (by omega)) I i (by omega) (fun h2 b2 c2 I2 hb2 hc2 => ?_)
      refine wr_iinc (i := 4) (n := 6) (v := i) (fun e => [(4, vi e), (0, .ref 1000000), (1, .ref 0), (2, .ref 236), (3, .ref 259)]) (nx := 1532) (r1 := 0) (r2 := 0) (r3 := 0) rfl rfl (fun _ => rfl) (fun e fe => ?_)
      refine wi_goto (nx := 1535) (r1 := 23) (r2 := 0) (r3 := 0) rfl ?_
      refine wp.lo (lo := [(0, .ref 1000000), (1, .ref 0), (2, .ref 236), (3, .ref 259), (4, vi e)]) ⟨rfl, rfl, rfl, rfl, rfl, trivial⟩ rfl ?_
      rw [fe]
      exact k h2 b2 c2 I2 (by omega) hb2 hc2
    ·
      refine wr_tsw 781 (nx := 248) (r1 := 0) (r2 := 0) (r3 := 0) rfl (by rw [q6]; rfl) ?_
      refine lc_781 hcr hL (hr (by omega)) I i (by omega) (fun h2 b2 c2 I2 hb2 hc2 => ?_)
      refine wr_iinc (i := 4) (n := 6) (v := i) (fun e => [(4, vi e), (0, .ref 1000000), (1, .ref 0), (2, .ref 236), (3, .ref 259)]) (nx := 1532) (r1 := 0) (r2 := 0) (r3 := 0) rfl rfl (fun _ => rfl) (fun e fe => ?_)
      refine wi_goto (nx := 1535) (r1 := 23) (r2 := 0) (r3 := 0) rfl ?_
      refine wp.lo (lo := [(0, .ref 1000000), (1, .ref 0), (2, .ref 236), (3, .ref 259), (4, vi e)]) ⟨rfl, rfl, rfl, rfl, rfl, trivial⟩ rfl ?_
      rw [fe]
      exact k h2 b2 c2 I2 (by omega) hb2 hc2
    ·
      refine wr_tsw 806 (nx := 248) (r1 := 0) (r2 := 0) (r3 := 0) rfl (by rw [q6]; rfl) ?_
      refine lc_806 hcr hL (hr (by omega)) I i (by omega) (fun h2 b2 c2 I2 hb2 hc2 => ?_)
      refine wr_iinc (i := 4) (n := 6) (v := i) (fun e => [(4, vi e), (0, .ref 1000000), (1, .ref 0), (2, .ref 236), (3, .ref 259)]) (nx := 1532) (r1 := 0) (r2 := 0) (r3 := 0) rfl rfl (fun _ => rfl) (fun e fe => ?_)
      refine wi_goto (nx := 1535) (r1 := 23) (r2 := 0) (r3 := 0) rfl ?_
      refine wp.lo (lo := [(0, .ref 1000000), (1, .ref 0), (2, .ref 236), (3, .ref 259), (4, vi e)]) ⟨rfl, rfl, rfl, rfl, rfl, trivial⟩ rfl ?_
      rw [fe]
      exact k h2 b2 c2 I2 (by omega) hb2 hc2
    ·
      refine wr_tsw 819 (nx := 248) (r1 := 0) (r2 := 0) (r3 := 0) rfl (by rw [q6]; rfl) ?_
      refine lc_819 hcr hL (hr (by omega)) I i (by omega) (fun h2 b2 c2 I2 hb2 hc2 => ?_)
      refine wr_iinc (i := 4) (n := 6) (v := i) (fun e => [(4, vi e), (0, .ref 1000000), (1, .ref 0), (2, .ref 236), (3, .ref 259)]) (nx := 1532) (r1 := 0) (r2 := 0) (r3 := 0) rfl rfl (fun _ => rfl) (fun e fe => ?_)
      refine wi_goto (nx := 1535) (r1 := 23) (r2 := 0) (r3 := 0) rfl ?_
      refine wp.lo (lo := [(0, .ref 1000000), (1, .ref 0), (2, .ref 236), (3, .ref 259), (4, vi e)]) ⟨rfl, rfl, rfl, rfl, rfl, trivial⟩ rfl ?_
      rw [fe]
      exact k h2 b2 c2 I2 (by omega) hb2 hc2
    ·
      refine wr_tsw 832 (nx := 248) (r1 := 0) (r2 := 0) (r3 := 0) rfl (by rw [q6]; rfl) ?_
      refine lc_832 hcr hL (hr (by omega)) I i (by omega) (fun h2 b2 c2 I2 hb2 hc2 => ?_)
      refine wr_iinc (i := 4) (n := 6) (v := i) (fun e => [(4, vi e), (0, .ref 1000000), (1, .ref 0), (2, .ref 236), (3, .ref 259)]) (nx := 1532) (r1 := 0) (r2 := 0) (r3 := 0) rfl rfl (fun _ => rfl) (fun e fe => ?_)
      refine wi_goto (nx := 1535) (r1 := 23) (r2 := 0) (r3 := 0) rfl ?_
      refine wp.lo (lo := [(0, .ref 1000000), (1, .ref 0), (2, .ref 236), (3, .ref 259), (4, vi e)]) ⟨rfl, rfl, rfl, rfl, rfl, trivial⟩ rfl ?_
      rw [fe]
      exact k h2 b2 c2 I2 (by omega) hb2 hc2
    ·
      refine wr_tsw 857 (nx := 248) (r1 := 0) (r2 := 0) (r3 := 0) rfl (by rw [q6]; rfl) ?_
      refine lc_857 hcr hL (hr (by omega)) I i (by omega) (fun h2 b2 c2 I2 hb2 hc2 => ?_)
      refine wr_iinc (i := 4) (n := 6) (v := i) (fun e => [(4, vi e), (0, .ref 1000000), (1, .ref 0), (2, .ref 236), (3, .ref 259)]) (nx := 1532) (r1 := 0) (r2 := 0) (r3 := 0) rfl rfl (fun _ => rfl) (fun e fe => ?_)
      refine wi_goto (nx := 1535) (r1 := 23) (r2 := 0) (r3 := 0) rfl ?_
      refine wp.lo (lo := [(0, .ref 1000000), (1, .ref 0), (2, .ref 236), (3, .ref 259), (4, vi e)]) ⟨rfl, rfl, rfl, rfl, rfl, trivial⟩ rfl ?_
      rw [fe]
      exact k h2 b2 c2 I2 (by omega) hb2 hc2
    ·
      refine wr_tsw 885 (nx := 248) (r1 := 0) (r2 := 0) (r3 := 0) rfl (by rw [q6]; rfl) ?_
      refine lc_885 hcr hL (hr (by omega)) I i (by omega) (fun h2 b2 c2 I2 hb2 hc2 => ?_)
      refine wr_iinc (i := 4) (n := 6) (v := i) (fun e => [(4, vi e), (0, .ref 1000000), (1, .ref 0), (2, .ref 236), (3, .ref 259)]) (nx := 1532) (r1 := 0) (r2 := 0) (r3 := 0) rfl rfl (fun _ => rfl) (fun e fe => ?_)
      refine wi_goto (nx := 1535) (r1 := 23) (r2 := 0) (r3 := 0) rfl ?_
      refine wp.lo (lo := [(0, .ref 1000000), (1, .ref 0), (2, .ref 236), (3, .ref 259), (4, vi e)]) ⟨rfl, rfl, rfl, rfl, rfl, trivial⟩ rfl ?_
      rw [fe]
      exact k h2 b2 c2 I2 (by omega) hb2 hc2
    ·
      refine wr_tsw 898 (nx := 248) (r1 := 0) (r2 := 0) (r3 := 0) rfl (by rw [q6]; rfl) ?_
      refine lc_898 hcr hL (hr (by omega)) I i (by omega) (fun h2 b2 c2 I2 hb2 hc2 => ?_)
      refine wr_iinc (i := 4) (n := 6) (v := i) (fun e => [(4, vi e), (0, .ref 1000000), (1, .ref 0), (2, .ref 236), (3, .ref 259)]) (nx := 1532) (r1 := 0) (r2 := 0) (r3 := 0) rfl rfl (fun _ => rfl) (fun e fe => ?_)
      refine wi_goto (nx := 1535) (r1 := 23) (r2 := 0) (r3 := 0) rfl ?_
      refine wp.lo (lo := [(0, .ref 1000000), (1, .ref 0), (2, .ref 236), (3, .ref 259), (4, vi e)]) ⟨rfl, rfl, rfl, rfl, rfl, trivial⟩ rfl ?_
      rw [fe]
      exact k h2 b2 c2 I2 (by omega) hb2 hc2
    ·
      refine wr_tsw 911 (nx := 248) (r1 := 0) (r2 := 0) (r3 := 0) rfl (by rw [q6]; rfl) ?_
      refine lc_911 hcr hL (hr (by omega)) I i (by omega) (fun h2 b2 c2 I2 hb2 hc2 => ?_)
      refine wr_iinc (i := 4) (n := 6) (v := i) (fun e => [(4, vi e), (0, .ref 1000000), (1, .ref 0), (2, .ref 236), (3, .ref 259)]) (nx := 1532) (r1 := 0) (r2 := 0) (r3 := 0) rfl rfl (fun _ => rfl) (fun e fe => ?_)
      refine wi_goto (nx := 1535) (r1 := 23) (r2 := 0) (r3 := 0) rfl ?_
      refine wp.lo (lo := [(0, .ref 1000000), (1, .ref 0), (2, .ref 236), (3, .ref 259), (4, vi e)]) ⟨rfl, rfl, rfl, rfl, rfl, trivial⟩ rfl ?_
      rw [fe]
      exact k h2 b2 c2 I2 (by omega) hb2 hc2
    ·
      refine wr_tsw 939 (nx := 248) (r1 := 0) (r2 := 0) (r3 := 0) rfl (by rw [q6]; rfl) ?_
      refine lc_939 hcr hL (hr (by omega)) I i (by omega) (fun h2 b2 c2 I2 hb2 hc2 => ?_)
      refine wr_iinc (i := 4) (n := 6) (v := i) (fun e => [(4, vi e), (0, .ref 1000000), (1, .ref 0), (2, .ref 236), (3, .ref 259)]) (nx := 1532) (r1 := 0) (r2 := 0) (r3 := 0) rfl rfl (fun _ => rfl) (fun e fe => ?_)
      refine wi_goto (nx := 1535) (r1 := 23) (r2 := 0) (r3 := 0) rfl ?_
      refine wp.lo (lo := [(0, .ref 1000000), (1, .ref 0), (2, .ref 236), (3, .ref 259), (4, vi e)]) ⟨rfl, rfl, rfl, rfl, rfl, trivial⟩ rfl ?_
      rw [fe]
      exact k h2 b2 c2 I2 (by omega) hb2 hc2
    ·
      refine wr_tsw 952 (nx := 248) (r1 := 0) (r2 := 0) (r3 := 0) rfl (by rw [q6]; rfl) ?_
      refine lc_952 hcr hL (hr (by omega)) I i (by omega) (fun h2 b2 c2 I2 hb2 hc2 => ?_)
      refine wr_iinc (i := 4) (n := 6) (v := i) (fun e => [(4, vi e), (0, .ref 1000000), (1, .ref 0), (2, .ref 236), (3, .ref 259)]) (nx := 1532) (r1 := 0) (r2 := 0) (r3 := 0) rfl rfl (fun _ => rfl) (fun e fe => ?_)
      refine wi_goto (nx := 1535) (r1 := 23) (r2 := 0) (r3 := 0) rfl ?_
      refine wp.lo (lo := [(0, .ref 1000000), (1, .ref 0), (2, .ref 236), (3, .ref 259), (4, vi e)]) ⟨rfl, rfl, rfl, rfl, rfl, trivial⟩ rfl ?_
      rw [fe]
      exact k h2 b2 c2 I2 (by omega) hb2 hc2
    ·
      refine wr_tsw 965 (nx := 248) (r1 := 0) (r2 := 0) (r3 := 0) rfl (by rw [q6]; rfl) ?_
      refine lc_965 hcr hL (hr (by omega)) I i (by omega) (fun h2 b2 c2 I2 hb2 hc2 => ?_)
      refine wr_iinc (i := 4) (n := 6) (v := i) (fun e => [(4, vi e), (0, .ref 1000000), (1, .ref 0), (2, .ref 236), (3, .ref 259)]) (nx := 1532) (r1 := 0) (r2 := 0) (r3 := 0) rfl rfl (fun _ => rfl) (fun e fe => ?_)
      refine wi_goto (nx := 1535) (r1 := 23) (r2 := 0) (r3 := 0) rfl ?_
      refine wp.lo (lo := [(0, .ref 1000000), (1, .ref 0), (2, .ref 236), (3, .ref 259), (4, vi e)]) ⟨rfl, rfl, rfl, rfl, rfl, trivial⟩ rfl ?_
      rw [fe]
      exact k h2 b2 c2 I2 (by omega) hb2 hc2
    ·
      refine wr_tsw 978 (nx := 248) (r1 := 0) (r2 := 0) (r3 := 0) rfl (by rw [q6]; rfl) ?_
      refine lc_978 hcr hL (hr (by omega)) I i (by omega) (fun h2 b2 c2 I2 hb2 hc2 => ?_)
      refine wr_iinc (i := 4) (n := 6) (v := i) (fun e => [(4, vi e), (0, .ref 1000000), (1, .ref 0), (2, .ref 236), (3, .ref 259)]) (nx := 1532) (r1 := 0) (r2 := 0) (r3 := 0) rfl rfl (fun _ => rfl) (fun e fe => ?_)
      refine wi_goto (nx := 1535) (r1 := 23) (r2 := 0) (r3 := 0) rfl ?_
      refine wp.lo (lo := [(0, .ref 1000000), (1, .ref 0), (2, .ref 236), (3, .ref 259), (4, vi e)]) ⟨rfl, rfl, rfl, rfl, rfl, trivial⟩ rfl ?_
      rw [fe]
      exact k h2 b2 c2 I2 (by omega) hb2 hc2
    ·
      refine wr_tsw 991 (nx := 248) (r1 := 0) (r2 := 0) (r3 := 0) rfl (by rw [q6]; rfl) ?_
      refine lc_991 hcr hL (hr (by omega)) I i (by omega) (fun h2 b2 c2 I2 hb2 hc2 => ?_)
      refine wr_iinc (i := 4) (n := 6) (v := i) (fun e => [(4, vi e), (0, .ref 1000000), (1, .ref 0), (2, .ref 236), (3, .ref 259)]) (nx := 1532) (r1 := 0) (r2 := 0) (r3 := 0) rfl rfl (fun _ => rfl) (fun e fe => ?_)
      refine wi_goto (nx := 1535) (r1 := 23) (r2 := 0) (r3 := 0) rfl ?_
      refine wp.lo (lo := [(0, .ref 1000000), (1, .ref 0), (2, .ref 236), (3, .ref 259), (4, vi e)]) ⟨rfl, rfl, rfl, rfl, rfl, trivial⟩ rfl ?_
      rw [fe]
      exact k h2 b2 c2 I2 (by omega) hb2 hc2
    ·
      refine wr_tsw 1004 (nx := 248) (r1 := 0) (r2 := 0) (r3 := 0) rfl (by rw [q6]; rfl) ?_
      refine lc_1004 hcr hL (hr (by omega)) I i (by omega) (fun h2 b2 c2 I2 hb2 hc2 => ?_)
      refine wr_iinc (i := 4) (n := 6) (v := i) (fun e => [(4, vi e), (0, .ref 1000000), (1, .ref 0), (2, .ref 236), (3, .ref 259)]) (nx := 1532) (r1 := 0) (r2 := 0) (r3 := 0) rfl rfl (fun _ => rfl) (fun e fe => ?_)
      refine wi_goto (nx := 1535) (r1 := 23) (r2 := 0) (r3 := 0) rfl ?_
      refine wp.lo (lo := [(0, .ref 1000000), (1, .ref 0), (2, .ref 236), (3, .ref 259), (4, vi e)]) ⟨rfl, rfl, rfl, rfl, rfl, trivial⟩ rfl ?_
      rw [fe]
      exact k h2 b2 c2 I2 (by omega) hb2 hc2
    ·
      refine wr_tsw 1017 (nx := 248) (r1 := 0) (r2 := 0) (r3 := 0) rfl (by rw [q6]; rfl) ?_
      refine lc_1017 hcr hL (hr (by omega)) I i (by omega) (fun h2 b2 c2 I2 hb2 hc2 => ?_)
      refine wr_iinc (i := 4) (n := 6) (v := i) (fun e => [(4, vi e), (0, .ref 1000000), (1, .ref 0), (2, .ref 236), (3, .ref 259)]) (nx := 1532) (r1 := 0) (r2 := 0) (r3 := 0) rfl rfl (fun _ => rfl) (fun e fe => ?_)
      refine wi_goto (nx := 1535) (r1 := 23) (r2 := 0) (r3 := 0) rfl ?_
      refine wp.lo (lo := [(0, .ref 1000000), (1, .ref 0), (2, .ref 236), (3, .ref 259), (4, vi e)]) ⟨rfl, rfl, rfl, rfl, rfl, trivial⟩ rfl ?_
      rw [fe]
      exact k h2 b2 c2 I2 (by omega) hb2 hc2
    ·
      refine wr_tsw 1045 (nx := 248) (r1 := 0) (r2 := 0) (r3 := 0) rfl (by rw [q6]; rfl) ?_
      refine lc_1045 hcr hL (hr (by omega)) I i (by omega) (fun h2 b2 c2 I2 hb2 hc2 => ?_)
      refine wr_iinc (i := 4) (n := 6) (v := i) (fun e => [(4, vi e), (0, .ref 1000000), (1, .ref 0), (2, .ref 236), (3, .ref 259)]) (nx := 1532) (r1 := 0) (r2 := 0) (r3 := 0) rfl rfl (fun _ => rfl) (fun e fe => ?_)
      refine wi_goto (nx := 1535) (r1 := 23) (r2 := 0) (r3 := 0) rfl ?_
      refine wp.lo (lo := [(0, .ref 1000000), (1, .ref 0), (2, .ref 236), (3, .ref 259), (4, vi e)]) ⟨rfl, rfl, rfl, rfl, rfl, trivial⟩ rfl ?_
      rw [fe]
      exact k h2 b2 c2 I2 (by omega) hb2 hc2
    ·
      refine wr_tsw 1073 (nx := 248) (r1 := 0) (r2 := 0) (r3 := 0) rfl (by rw [q6]; rfl) ?_
      refine lc_1073 hcr hL (hr (by omega)) I i (by omega) (fun h2 b2 c2 I2 hb2 hc2 => ?_)
      refine wr_iinc (i := 4) (n := 6) (v := i) (fun e => [(4, vi e), (0, .ref 1000000), (1, .ref 0), (2, .ref 236), (3, .ref 259)]) (nx := 1532) (r1 := 0) (r2 := 0) (r3 := 0) rfl rfl (fun _ => rfl) (fun e fe => ?_)
      refine wi_goto (nx := 1535) (r1 := 23) (r2 := 0) (r3 := 0) rfl ?_
      refine wp.lo (lo := [(0, .ref 1000000), (1, .ref 0), (2, .ref 236), (3, .ref 259), (4, vi e)]) ⟨rfl, rfl, rfl, rfl, rfl, trivial⟩ rfl ?_
      rw [fe]
      exact k h2 b2 c2 I2 (by omega) hb2 hc2
    ·
      refine wr_tsw 1101 (nx := 248) (r1 := 0) (r2 := 0) (r3 := 0) rfl (by rw [q6]; rfl) ?_
      refine lc_1101 hcr hL (hr (by omega)) I i (by omega) (fun h2 b2 c2 I2 hb2 hc2 => ?_)
      refine wr_iinc (i := 4) (n := 6) (v := i) (fun e => [(4, vi e), (0, .ref 1000000), (1, .ref 0), (2, .ref 236), (3, .ref 259)]) (nx := 1532) (r1 := 0) (r2 := 0) (r3 := 0) rfl rfl (fun _ => rfl) (fun e fe => ?_)
      refine wi_goto (nx := 1535) (r1 := 23) (r2 := 0) (r3 := 0) rfl ?_
      refine wp.lo (lo := [(0, .ref 1000000), (1, .ref 0), (2, .ref 236), (3, .ref 259), (4, vi e)]) ⟨rfl, rfl, rfl, rfl, rfl, trivial⟩ rfl ?_
      rw [fe]
      exact k h2 b2 c2 I2 (by omega) hb2 hc2
    ·
      refine wr_tsw 1114 (nx := 248) (r1 := 0) (r2 := 0) (r3 := 0) rfl (by rw [q6]; rfl) ?_
      refine lc_1114 hcr hL (hr (by omega)) I i (by omega) (fun h2 b2 c2 I2 hb2 hc2 => ?_)
      refine wr_iinc (i := 4) (n := 6) (v := i) (fun e => [(4, vi e), (0, .ref 1000000), (1, .ref 0), (2, .ref 236), (3, .ref 259)]) (nx := 1532) (r1 := 0) (r2 := 0) (r3 := 0) rfl rfl (fun _ => rfl) (fun e fe => ?_)
      refine wi_goto (nx := 1535) (r1 := 23) (r2 := 0) (r3 := 0) rfl ?_
      refine wp.lo (lo := [(0, .ref 1000000), (1, .ref 0), (2, .ref 236), (3, .ref 259), (4, vi e)]) ⟨rfl, rfl, rfl, rfl, rfl, trivial⟩ rfl ?_
      rw [fe]
      exact k h2 b2 c2 I2 (by omega) hb2 hc2
    ·
      refine wr_tsw 1127 (nx := 248) (r1 := 0) (r2 := 0) (r3 := 0) rfl (by rw [q6]; rfl) ?_
      refine lc_1127 hcr hL (hr (by omega)) I i (by omega) (fun h2 b2 c2 I2 hb2 hc2 => ?_)
      refine wr_iinc (i := 4) (n := 6) (v := i) (fun e => [(4, vi e), (0, .ref 1000000), (1, .ref 0), (2, .ref 236), (3, .ref 259)]) (nx := 1532) (r1 := 0) (r2 := 0) (r3 := 0) rfl rfl (fun _ => rfl) (fun e fe => ?_)
      refine wi_goto (nx := 1535) (r1 := 23) (r2 := 0) (r3 := 0) rfl ?_
      refine wp.lo (lo := [(0, .ref 1000000), (1, .ref 0), (2, .ref 236), (3, .ref 259), (4, vi e)]) ⟨rfl, rfl, rfl, rfl, rfl, trivial⟩ rfl ?_
      rw [fe]
      exact k h2 b2 c2 I2 (by omega) hb2 hc2
    ·
      refine wr_tsw 1140 (nx := 248) (r1 := 0) (r2 := 0) (r3 := 0) rfl (by rw [q6]; rfl) ?_
      refine lc_1140 hcr hL (hr (by omega)) I i (by omega) (fun h2 b2 c2 I2 hb2 hc2 => ?_)
      refine wr_iinc (i := 4) (n := 6) (v := i) (fun e => [(4, vi e), (0, .ref 1000000), (1, .ref 0), (2, .ref 236), (3, .ref 259)]) (nx := 1532) (r1 := 0) (r2 := 0) (r3 := 0) rfl rfl (fun _ => rfl) (fun e fe => ?_)
      refine wi_goto (nx := 1535) (r1 := 23) (r2 := 0) (r3 := 0) rfl ?_
      refine wp.lo (lo := [(0, .ref 1000000), (1, .ref 0), (2, .ref 236), (3, .ref 259), (4, vi e)]) ⟨rfl, rfl, rfl, rfl, rfl, trivial⟩ rfl ?_
      rw [fe]
      exact k h2 b2 c2 I2 (by omega) hb2 hc2
    ·
      refine wr_tsw 1153 (nx := 248) (r1 := 0) (r2 := 0) (r3 := 0) rfl (by rw [q6]; rfl) ?_
      refine lc_1153 hcr hL (hr (by omega)) I i (by omega) (fun h2 b2 c2 I2 hb2 hc2 => ?_)
      refine wr_iinc (i := 4) (n := 6) (v := i) (fun e => [(4, vi e), (0, .ref 1000000), (1, .ref 0), (2, .ref 236), (3, .ref 259)]) (nx := 1532) (r1 := 0) (r2 := 0) (r3 := 0) rfl rfl (fun _ => rfl) (fun e fe => ?_)
      refine wi_goto (nx := 1535) (r1 := 23) (r2 := 0) (r3 := 0) rfl ?_
      refine wp.lo (lo := [(0, .ref 1000000), (1, .ref 0), (2, .ref 236), (3, .ref 259), (4, vi e)]) ⟨rfl, rfl, rfl, rfl, rfl, trivial⟩ rfl ?_
      rw [fe]
      exact k h2 b2 c2 I2 (by omega) hb2 hc2
    ·
      refine wr_tsw 1181 (nx := 248) (r1 := 0) (r2 := 0) (r3 := 0) rfl (by rw [q6]; rfl) ?_
      refine lc_1181 hcr hL (hr (by omega)) I i (by omega) (fun h2 b2 c2 I2 hb2 hc2 => ?_)
      refine wr_iinc (i := 4) (n := 6) (v := i) (fun e => [(4, vi e), (0, .ref 1000000), (1, .ref 0), (2, .ref 236), (3, .ref 259)]) (nx := 1532) (r1 := 0) (r2 := 0) (r3 := 0) rfl rfl (fun _ => rfl) (fun e fe => ?_)
      refine wi_goto (nx := 1535) (r1 := 23) (r2 := 0) (r3 := 0) rfl ?_
      refine wp.lo (lo := [(0, .ref 1000000), (1, .ref 0), (2, .ref 236), (3, .ref 259), (4, vi e)]) ⟨rfl, rfl, rfl, rfl, rfl, trivial⟩ rfl ?_
      rw [fe]
      exact k h2 b2 c2 I2 (by omega) hb2 hc2
    ·
      refine wr_tsw 1209 (nx := 248) (r1 := 0) (r2 := 0) (r3 := 0) rfl (by rw [q6]; rfl) ?_
      refine lc_1209 hcr hL (hr (by omega)) I i (by omega) (fun h2 b2 c2 I2 hb2 hc2 => ?_)
      refine wr_iinc (i := 4) (n := 6) (v := i) (fun e => [(4, vi e), (0, .ref 1000000), (1, .ref 0), (2, .ref 236), (3, .ref 259)]) (nx := 1532) (r1 := 0) (r2 := 0) (r3 := 0) rfl rfl (fun _ => rfl) (fun e fe => ?_)
      refine wi_goto (nx := 1535) (r1 := 23) (r2 := 0) (r3 := 0) rfl ?_
      refine wp.lo (lo := [(0, .ref 1000000), (1, .ref 0), (2, .ref 236), (3, .ref 259), (4, vi e)]) ⟨rfl, rfl, rfl, rfl, rfl, trivial⟩ rfl ?_
      rw [fe]
      exact k h2 b2 c2 I2 (by omega) hb2 hc2
    ·
      refine wr_tsw 1237 (nx := 248) (r1 := 0) (r2 := 0) (r3 := 0) rfl (by rw [q6]; rfl) ?_
      refine lc_1237 hcr hL (hr (by omega)) I i (by omega) (fun h2 b2 c2 I2 hb2 hc2 => ?_)
      refine wr_iinc (i := 4) (n := 6) (v := i) (fun e => [(4, vi e), (0, .ref 1000000), (1, .ref 0), (2, .ref 236), (3, .ref 259)]) (nx := 1532) (r1 := 0) (r2 := 0) (r3 := 0) rfl rfl (fun _ => rfl) (fun e fe => ?_)
      refine wi_goto (nx := 1535) (r1 := 23) (r2 := 0) (r3 := 0) rfl ?_
      refine wp.lo (lo := [(0, .ref 1000000), (1, .ref 0), (2, .ref 236), (3, .ref 259), (4, vi e)]) ⟨rfl, rfl, rfl, rfl, rfl, trivial⟩ rfl ?_
      rw [fe]
      exact k h2 b2 c2 I2 (by omega) hb2 hc2
    ·
      refine wr_tsw 1265 (nx := 248) (r1 := 0) (r2 := 0) (r3 := 0) rfl (by rw [q6]; rfl) ?_
      refine lc_1265 hcr hL (hr (by omega)) I i (by omega) (fun h2 b2 c2 I2 hb2 hc2 => ?_)
      refine wr_iinc (i := 4) (n := 6) (v := i) (fun e => [(4, vi e), (0, .ref 1000000), (1, .ref 0), (2, .ref 236), (3, .ref 259)]) (nx := 1532) (r1 := 0) (r2 := 0) (r3 := 0) rfl rfl (fun _ => rfl) (fun e fe => ?_)
      refine wi_goto (nx := 1535) (r1 := 23) (r2 := 0) (r3 := 0) rfl ?_
      refine wp.lo (lo := [(0, .ref 1000000), (1, .ref 0), (2, .ref 236), (3, .ref 259), (4, vi e)]) ⟨rfl, rfl, rfl, rfl, rfl, trivial⟩ rfl ?_
      rw [fe]
      exact k h2 b2 c2 I2 (by omega) hb2 hc2
    ·
      refine wr_tsw 1278 (nx := 248) (r1 := 0) (r2 := 0) (r3 := 0) rfl (by rw [q6]; rfl) ?_
      refine lc_1278 hcr hL (hr (by omega)) I i (by omega) (fun h2 b2 c2 I2 hb2 hc2 => ?_)
      refine wr_iinc (i := 4) (n := 6) (v := i) (fun e => [(4, vi e), (0, .ref 1000000), (1, .ref 0), (2, .ref 236), (3, .ref 259)]) (nx := 1532) (r1 := 0) (r2 := 0) (r3 := 0) rfl rfl (fun _ => rfl) (fun e fe => ?_)
      refine wi_goto (nx := 1535) (r1 := 23) (r2 := 0) (r3 := 0) rfl ?_
      refine wp.lo (lo := [(0, .ref 1000000), (1, .ref 0), (2, .ref 236), (3, .ref 259), (4, vi e)]) ⟨rfl, rfl, rfl, rfl, rfl, trivial⟩ rfl ?_
      rw [fe]
      exact k h2 b2 c2 I2 (by omega) hb2 hc2
    ·
      refine wr_tsw 1291 (nx := 248) (r1 := 0) (r2 := 0) (r3 := 0) rfl (by rw [q6]; rfl) ?_
      refine lc_1291 hcr hL (hr (by omega)) I i (by omega) (fun h2 b2 c2 I2 hb2 hc2 => ?_)
      refine wr_iinc (i := 4) (n := 6) (v := i) (fun e => [(4, vi e), (0, .ref 1000000), (1, .ref 0), (2, .ref 236), (3, .ref 259)]) (nx := 1532) (r1 := 0) (r2 := 0) (r3 := 0) rfl rfl (fun _ => rfl) (fun e fe => ?_)
      refine wi_goto (nx := 1535) (r1 := 23) (r2 := 0) (r3 := 0) rfl ?_
      refine wp.lo (lo := [(0, .ref 1000000), (1, .ref 0), (2, .ref 236), (3, .ref 259), (4, vi e)]) ⟨rfl, rfl, rfl, rfl, rfl, trivial⟩ rfl ?_
      rw [fe]
      exact k h2 b2 c2 I2 (by omega) hb2 hc2
    ·
      refine wr_tsw 1316 (nx := 248) (r1 := 0) (r2 := 0) (r3 := 0) rfl (by rw [q6]; rfl) ?_
      refine lc_1316 hcr hL (hr (by omega)) I i (by omega) (fun h2 b2 c2 I2 hb2 hc2 => ?_)
      refine wr_iinc (i := 4) (n := 6) (v := i) (fun e => [(4, vi e), (0, .ref 1000000), (1, .ref 0), (2, .ref 236), (3, .ref 259)]) (nx := 1532) (r1 := 0) (r2 := 0) (r3 := 0) rfl rfl (fun _ => rfl) (fun e fe => ?_)
      refine wi_goto (nx := 1535) (r1 := 23) (r2 := 0) (r3 := 0) rfl ?_
      refine wp.lo (lo := [(0, .ref 1000000), (1, .ref 0), (2, .ref 236), (3, .ref 259), (4, vi e)]) ⟨rfl, rfl, rfl, rfl, rfl, trivial⟩ rfl ?_
      rw [fe]
      exact k h2 b2 c2 I2 (by omega) hb2 hc2
    ·
      refine wr_tsw 1329 (nx := 248) (r1 := 0) (r2 := 0) (r3 := 0) rfl (by rw [q6]; rfl) ?_
      refine lc_1329 hcr hL (hr (by omega)) I i (by omega) (fun h2 b2 c2 I2 hb2 hc2 => ?_)
      refine wr_iinc (i := 4) (n := 6) (v := i) (fun e => [(4, vi e), (0, .ref 1000000), (1, .ref 0), (2, .ref 236), (3, .ref 259)]) (nx := 1532) (r1 := 0) (r2 := 0) (r3 := 0) rfl rfl (fun _ => rfl) (fun e fe => ?_)
      refine wi_goto (nx := 1535) (r1 := 23) (r2 := 0) (r3 := 0) rfl ?_
      refine wp.lo (lo := [(0, .ref 1000000), (1, .ref 0), (2, .ref 236), (3, .ref 259), (4, vi e)]) ⟨rfl, rfl, rfl, rfl, rfl, trivial⟩ rfl ?_
      rw [fe]
      exact k h2 b2 c2 I2 (by omega) hb2 hc2
    ·
      refine wr_tsw 1342 (nx := 248) (r1 := 0) (r2 := 0) (r3 := 0) rfl (by rw [q6]; rfl) ?_
      refine lc_1342 hcr hL (hr (by omega)) I i (by omega) (fun h2 b2 c2 I2 hb2 hc2 => ?_)
      refine wr_iinc (i := 4) (n := 6) (v := i) (fun e => [(4, vi e), (0, .ref 1000000), (1, .ref 0), (2, .ref 236), (3, .ref 259)]) (nx := 1532) (r1 := 0) (r2 := 0) (r3 := 0) rfl rfl (fun _ => rfl) (fun e fe => ?_)
      refine wi_goto (nx := 1535) (r1 := 23) (r2 := 0) (r3 := 0) rfl ?_
      refine wp.lo (lo := [(0, .ref 1000000), (1, .ref 0), (2, .ref 236), (3, .ref 259), (4, vi e)]) ⟨rfl, rfl, rfl, rfl, rfl, trivial⟩ rfl ?_
      rw [fe]
      exact k h2 b2 c2 I2 (by omega) hb2 hc2
    ·
      refine wr_tsw 1355 (nx := 248) (r1 := 0) (r2 := 0) (r3 := 0) rfl (by rw [q6]; rfl) ?_
      refine lc_1355 hcr hL (hr (by omega)) I i (by omega) (fun h2 b2 c2 I2 hb2 hc2 => ?_)
      refine wr_iinc (i := 4) (n := 6) (v := i) (fun e => [(4, vi e), (0, .ref 1000000), (1, .ref 0), (2, .ref 236), (3, .ref 259)]) (nx := 1532) (r1 := 0) (r2 := 0) (r3 := 0) rfl rfl (fun _ => rfl) (fun e fe => ?_)
      refine wi_goto (nx := 1535) (r1 := 23) (r2 := 0) (r3 := 0) rfl ?_
      refine wp.lo (lo := [(0, .ref 1000000), (1, .ref 0), (2, .ref 236), (3, .ref 259), (4, vi e)]) ⟨rfl, rfl, rfl, rfl, rfl, trivial⟩ rfl ?_
      rw [fe]
      exact k h2 b2 c2 I2 (by omega) hb2 hc2
    ·
      refine wr_tsw 1368 (nx := 248) (r1 := 0) (r2 := 0) (r3 := 0) rfl (by rw [q6]; rfl) ?_
      refine lc_1368 hcr hL (hr (by omega)) I i (by omega) (fun h2 b2 c2 I2 hb2 hc2 => ?_)
      refine wr_iinc (i := 4) (n := 6) (v := i) (fun e => [(4, vi e), (0, .ref 1000000), (1, .ref 0), (2, .ref 236), (3, .ref 259)]) (nx := 1532) (r1 := 0) (r2 := 0) (r3 := 0) rfl rfl (fun _ => rfl) (fun e fe => ?_)
      refine wi_goto (nx := 1535) (r1 := 23) (r2 := 0) (r3 := 0) rfl ?_
      refine wp.lo (lo := [(0, .ref 1000000), (1, .ref 0), (2, .ref 236), (3, .ref 259), (4, vi e)]) ⟨rfl, rfl, rfl, rfl, rfl, trivial⟩ rfl ?_
      rw [fe]
      exact k h2 b2 c2 I2 (by omega) hb2 hc2
    ·
      refine wr_tsw 1393 (nx := 248) (r1 := 0) (r2 := 0) (r3 := 0) rfl (by rw [q6]; rfl) ?_
      refine lc_1393 hcr hL (hr (by omega)) I i (by omega) (fun h2 b2 c2 I2 hb2 hc2 => ?_)
      refine wr_iinc (i := 4) (n := 6) (v := i) (fun e => [(4, vi e), (0, .ref 1000000), (1, .ref 0), (2, .ref 236), (3, .ref 259)]) (nx := 1532) (r1 := 0) (r2 := 0) (r3 := 0) rfl rfl (fun _ => rfl) (fun e fe => ?_)
      refine wi_goto (nx := 1535) (r1 := 23) (r2 := 0) (r3 := 0) rfl ?_
      refine wp.lo (lo := [(0, .ref 1000000), (1, .ref 0), (2, .ref 236), (3, .ref 259), (4, vi e)]) ⟨rfl, rfl, rfl, rfl, rfl, trivial⟩ rfl ?_
      rw [fe]
      exact k h2 b2 c2 I2 (by omega) hb2 hc2
    ·
      refine wr_tsw 1406 (nx := 248) (r1 := 0) (r2 := 0) (r3 := 0) rfl (by rw [q6]; rfl) ?_
      refine lc_1406 hcr hL (hr (by omega)) I i (by omega) (fun h2 b2 c2 I2 hb2 hc2 => ?_)
      refine wr_iinc (i := 4) (n := 6) (v := i) (fun e => [(4, vi e), (0, .ref 1000000), (1, .ref 0), (2, .ref 236), (3, .ref 259)]) (nx := 1532) (r1 := 0) (r2 := 0) (r3 := 0) rfl rfl (fun _ => rfl) (fun e fe => ?_)
      refine wi_goto (nx := 1535) (r1 := 23) (r2 := 0) (r3 := 0) rfl ?_
      refine wp.lo (lo := [(0, .ref 1000000), (1, .ref 0), (2, .ref 236), (3, .ref 259), (4, vi e)]) ⟨rfl, rfl, rfl, rfl, rfl, trivial⟩ rfl ?_
      rw [fe]
      exact k h2 b2 c2 I2 (by omega) hb2 hc2
    ·
      refine wr_tsw 1446 (nx := 248) (r1 := 0) (r2 := 0) (r3 := 0) rfl (by rw [q6]; rfl) ?_
      refine lc_1446 hcr hL (hr (by omega)) I i (by omega) (fun h2 b2 c2 I2 hb2 hc2 => ?_)
      refine wr_iinc (i := 4) (n := 6) (v := i) (fun e => [(4, vi e), (0, .ref 1000000), (1, .ref 0), (2, .ref 236), (3, .ref 259)]) (nx := 1532) (r1 := 0) (r2 := 0) (r3 := 0) rfl rfl (fun _ => rfl) (fun e fe => ?_)
      refine wi_goto (nx := 1535) (r1 := 23) (r2 := 0) (r3 := 0) rfl ?_
      refine wp.lo (lo := [(0, .ref 1000000), (1, .ref 0), (2, .ref 236), (3, .ref 259), (4, vi e)]) ⟨rfl, rfl, rfl, rfl, rfl, trivial⟩ rfl ?_
      rw [fe]
      exact k h2 b2 c2 I2 (by omega) hb2 hc2
    ·
      refine wr_tsw 1459 (nx := 248) (r1 := 0) (r2 := 0) (r3 := 0) rfl (by rw [q6]; rfl) ?_
      refine lc_1459 hcr hL (hr (by omega)) I i (by omega) (fun h2 b2 c2 I2 hb2 hc2 => ?_)
      refine wr_iinc (i := 4) (n := 6) (v := i) (fun e => [(4, vi e), (0, .ref 1000000), (1, .ref 0), (2, .ref 236), (3, .ref 259)]) (nx := 1532) (r1 := 0) (r2 := 0) (r3 := 0) rfl rfl (fun _ => rfl) (fun e fe => ?_)
      refine wi_goto (nx := 1535) (r1 := 23) (r2 := 0) (r3 := 0) rfl ?_
      refine wp.lo (lo := [(0, .ref 1000000), (1, .ref 0), (2, .ref 236), (3, .ref 259), (4, vi e)]) ⟨rfl, rfl, rfl, rfl, rfl, trivial⟩ rfl ?_
      rw [fe]
      exact k h2 b2 c2 I2 (by omega) hb2 hc2
    ·
      refine wr_tsw 1487 (nx := 248) (r1 := 0) (r2 := 0) (r3 := 0) rfl (by rw [q6]; rfl) ?_
      refine lc_1487 hcr hL (hr (by omega)) I i (by omega) (fun h2 b2 c2 I2 hb2 hc2 => ?_)
      refine wr_iinc (i := 4) (n := 6) (v := i) (fun e => [(4, vi e), (0, .ref 1000000), (1, .ref 0), (2, .ref 236), (3, .ref 259)]) (nx := 1532) (r1 := 0) (r2 := 0) (r3 := 0) rfl rfl (fun _ => rfl) (fun e fe => ?_)
      refine wi_goto (nx := 1535) (r1 := 23) (r2 := 0) (r3 := 0) rfl ?_
      refine wp.lo (lo := [(0, .ref 1000000), (1, .ref 0), (2, .ref 236), (3, .ref 259), (4, vi e)]) ⟨rfl, rfl, rfl, rfl, rfl, trivial⟩ rfl ?_
      rw [fe]
      exact k h2 b2 c2 I2 (by omega) hb2 hc2
    ·
      refine wr_tsw 1500 (nx := 248) (r1 := 0) (r2 := 0) (r3 := 0) rfl (by rw [q6]; rfl) ?_
      refine lc_1500 hcr hL (hr (by omega)) I i (by omega) (fun h2 b2 c2 I2 hb2 hc2 => ?_)
      refine wr_iinc (i := 4) (n := 6) (v := i) (fun e => [(4, vi e), (0, .ref 1000000), (1, .ref 0), (2, .ref 236), (3, .ref 259)]) (nx := 1532) (r1 := 0) (r2 := 0) (r3 := 0) rfl rfl (fun _ => rfl) (fun e fe => ?_)
      refine wi_goto (nx := 1535) (r1 := 23) (r2 := 0) (r3 := 0) rfl ?_
      refine wp.lo (lo := [(0, .ref 1000000), (1, .ref 0), (2, .ref 236), (3, .ref 259), (4, vi e)]) ⟨rfl, rfl, rfl, rfl, rfl, trivial⟩ rfl ?_
      rw [fe]
      exact k h2 b2 c2 I2 (by omega) hb2 hc2
    ·
      refine wr_tsw 1513 (nx := 248) (r1 := 0) (r2 := 0) (r3 := 0) rfl (by rw [q6]; rfl) ?_
      refine lc_1513 hcr hL (hr (by omega)) I i (by omega) (fun h2 b2 c2 I2 hb2 hc2 => ?_)
      refine wr_iinc (i := 4) (n := 6) (v := i) (fun e => [(4, vi e), (0, .ref 1000000), (1, .ref 0), (2, .ref 236), (3, .ref 259)]) (nx := 1532) (r1 := 0) (r2 := 0) (r3 := 0) rfl rfl (fun _ => rfl) (fun e fe => ?_)
      refine wi_goto (nx := 1535) (r1 := 23) (r2 := 0) (r3 := 0) rfl ?_
      refine wp.lo (lo := [(0, .ref 1000000), (1, .ref 0), (2, .ref 236), (3, .ref 259), (4, vi e)]) ⟨rfl, rfl, rfl, rfl, rfl, trivial⟩ rfl ?_
      rw [fe]
      exact k h2 b2 c2 I2 (by omega) hb2 hc2
    ·
      refine wr_tswD 1529 (nx := 248) (r1 := 0) (r2 := 0) (r3 := 0) rfl (by omega) (by omega) rfl ?_
      refine lc_1529 hcr hL (hr (by omega)) I i (by omega) (fun h2 b2 c2 I2 hb2 hc2 => ?_)
      refine wr_iinc (i := 4) (n := 6) (v := i) (fun e => [(4, vi e), (0, .ref 1000000), (1, .ref 0), (2, .ref 236), (3, .ref 259)]) (nx := 1532) (r1 := 0) (r2 := 0) (r3 := 0) rfl rfl (fun _ => rfl) (fun e fe => ?_)
      refine wi_goto (nx := 1535) (r1 := 23) (r2 := 0) (r3 := 0) rfl ?_
      refine wp.lo (lo := [(0, .ref 1000000), (1, .ref 0), (2, .ref 236), (3, .ref 259), (4, vi e)]) ⟨rfl, rfl, rfl, rfl, rfl, trivial⟩ rfl ?_
      rw [fe]
      exact k h2 b2 c2 I2 (by omega) hb2 hc2
