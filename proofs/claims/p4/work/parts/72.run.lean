/-! ===== the law's run ===== -/
noncomputable def st_c4 (F : y_F) : Bool := decide (st_hY F 1 1 = 0) && decide (st_hY F 1 2 = st_hY F 236 10) && decide (st_hY F 1 3 = st_hY F 236 11)
noncomputable def st_k4 : Bool := match st_S with | some F => st_c4 F | none => false
set_option maxRecDepth 1000000 in
theorem st_k4t : st_k4 = true := by decide +kernel
theorem st_4 : BRh st_h ∧ st_h 1 2 = st_h 236 10 ∧ st_h 1 3 = st_h 236 11 := by
  have h := st_k4t
  unfold st_k4 at h
  rw [st_Ss] at h
  have h2 : st_c4 st_F = true := h
  unfold st_c4 at h2
  rw [← st_hY_e 1 (by decide), ← st_hY_e 236 (by decide)] at h2
  simp only [Bool.and_eq_true, decide_eq_true_eq] at h2
  obtain ⟨⟨h1, h3⟩, h4⟩ := h2
  refine ⟨fun i hi => ?_, h3, h4⟩
  rw [h1] at hi
  exact absurd hi (Nat.not_lt_zero _)
noncomputable def st_c5 (F : y_F) : Bool := decide (st_hY F 3 0 = st_hY F 238 0) && (decide (st_hY F 3 1 = st_hY F 238 1) && (decide (st_hY F 3 2 = st_hY F 238 2) && (decide (st_hY F 3 3 = st_hY F 238 3) && (decide (st_hY F 3 4 = st_hY F 238 4) && (decide (st_hY F 3 5 = st_hY F 238 5) && (decide (st_hY F 3 6 = st_hY F 238 6) && (decide (st_hY F 3 7 = st_hY F 238 7) && (decide (st_hY F 3 8 = st_hY F 238 8) && (decide (st_hY F 3 9 = st_hY F 238 9) && (decide (st_hY F 238 0 = 0) && (decide (st_hY F 238 1 = 0) && (decide (st_hY F 238 2 = 0) && (decide (st_hY F 0 12 = 0) && (decide (st_hY F 236 21 = 0) && (decide (st_hY F 236 22 = 0))))))))))))))))
noncomputable def st_k5 : Bool := match st_S with | some F => st_c5 F | none => false
set_option maxRecDepth 1000000 in
theorem st_k5t : st_k5 = true := by decide +kernel
theorem st_5 : SVx (st_h 3) (st_h 5) (st_h 6) (st_h 8) (st_h 238) ∧ st_h 0 12 = st_h 236 21 ∧ (st_h 0 12 = 1 → SVx (st_h 210) (st_h 212) (st_h 213) (st_h 215) (st_h 241)) ∧ GPS st_h := by
  have h := st_k5t
  unfold st_k5 at h
  rw [st_Ss] at h
  have h2 : st_c5 st_F = true := h
  unfold st_c5 at h2
  rw [← st_hY_e 3 (by decide), ← st_hY_e 238 (by decide), ← st_hY_e 0 (by decide), ← st_hY_e 236 (by decide)] at h2
  simp only [Bool.and_eq_true, decide_eq_true_eq] at h2
  obtain ⟨a0, a1, a2, a3, a4, a5, a6, a7, a8, a9, b0, b1, b2, c0, c1, c2⟩ := h2
  refine ⟨⟨⟨a0, a1, a2, a3, a4, a5, a6, a7, a8, a9⟩, fun i hi => ?_, fun i hi => ?_, fun i hi => ?_⟩, by rw [c0, c1], fun e => ?_, GPS.zero (by rw [c2]; exact Int.le_refl _)⟩
  · rw [b0] at hi; exact absurd hi (by omega)
  · rw [b1] at hi; exact absurd hi (by omega)
  · rw [b2] at hi; exact absurd hi (by omega)
  · rw [c0] at e; exact absurd e (by decide)
theorem md_run {L : Nat} {xs : Nat → Int32} (hL : L ≤ 3072) : ∃ f d W2 b2 c2, d ≤ 2000 ∧ mm_ex (md_xa (L, xs)) f d 0 (0, [(0, .ref mm_XB)], [], [], md_cells, md_slots) = some (.inl (some (.int 1)), W2, b2, c2) := by
  have w : wp (md_xa (L, xs)) (94 + 107) 0 (23, [(0, .ref mm_XB), (1, .ref 0), (2, .ref 236), (3, .ref 259), (4, vi 0)], [], hp_w st_h st_r, st_b, st_c) (fun v _ _ _ => v = .inl (some (.int 1))) :=
    lc_loop (d := 94) st_3.2 hL (fun _ _ _ => rfl) st_h st_b st_c ⟨st_GI, st_3.1.1, st_3.1.2.1, st_3.1.2.2.1, st_3.1.2.2.2, st_4.1, st_4.2.1, st_4.2.2, st_5⟩ (by decide) (by decide)
  have w2 := wp.lo (lo := [(0, .ref mm_XB), (1, .ref 0), (2, .ref 236), (3, .ref 259), (4, vi 0)]) (lo2 := st_lo) ⟨rfl, rfl, rfl, rfl, rfl, trivial⟩ rfl w
  rw [st_We] at w2
  obtain ⟨v, W2, b2, c2, h1, rfl⟩ := w2
  obtain ⟨f, h⟩ := mm_go_ev (d := 200) (md_xz_le (L, xs)) 13 _ _ st_Se0 h1
  exact ⟨f, 201, W2, b2, c2, by decide, h⟩
