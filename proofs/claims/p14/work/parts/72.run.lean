/-! ===== the law's run ===== -/
noncomputable def st_c4 (F : y_F) : Bool := decide (st_hY F 1 1 = 0) && decide (st_hY F 1 2 = st_hY F 236 10) && decide (st_hY F 1 3 = st_hY F 236 11)
noncomputable def st_k4 : Bool := match st_S with | some F => st_c4 F | none => false
set_option maxRecDepth 1000000 in
theorem st_k4t : st_k4 = true := by decide +kernel
theorem st_4 : BRh st_h ∧ st_h 1 2 = st_h 236 10 ∧ st_h 1 3 = st_h 236 11 := by
  have h := st_k4t
  unfold st_k4 at h
  rw [st_Ss] at h
  have h2 : st_c4 st_F = true := h
  unfold st_c4 at h2
  rw [← st_hY_e 1 (by decide), ← st_hY_e 236 (by decide)] at h2
  simp only [Bool.and_eq_true, decide_eq_true_eq] at h2
  obtain ⟨⟨h1, h3⟩, h4⟩ := h2
  refine ⟨fun i hi => ?_, h3, h4⟩
  rw [h1] at hi
  exact absurd hi (Nat.not_lt_zero _)
noncomputable def st_c5 (F : y_F) : Bool := decide (st_hY F 3 0 = st_hY F 238 0) && (decide (st_hY F 3 1 = st_hY F 238 1) && (decide (st_hY F 3 2 = st_hY F 238 2) && (decide (st_hY F 3 3 = st_hY F 238 3) && (decide (st_hY F 3 4 = st_hY F 238 4) && (decide (st_hY F 3 5 = st_hY F 238 5) && (decide (st_hY F 3 6 = st_hY F 238 6) && (decide (st_hY F 3 7 = st_hY F 238 7) && (decide (st_hY F 3 8 = st_hY F 238 8) && (decide (st_hY F 3 9 = st_hY F 238 9) && (decide (st_hY F 238 0 = 0) && (decide (st_hY F 238 1 = 0) && (decide (st_hY F 238 2 = 0) && (decide (st_hY F 0 12 = 0) && (decide (st_hY F 236 21 = 0) && (decide (st_hY F 236 22 = 0))))))))))))))))
noncomputable def st_k5 : Bool := match st_S with | some F => st_c5 F | none => false
set_option maxRecDepth 1000000 in
theorem st_k5t : st_k5 = true := by decide +kernel
theorem st_5 : SVx (st_h 3) (st_h 5) (st_h 6) (st_h 8) (st_h 238) ∧ st_h 0 12 = st_h 236 21 ∧ (st_h 0 12 = 1 → SVx (st_h 210) (st_h 212) (st_h 213) (st_h 215) (st_h 241)) ∧ GPS st_h := by
  have h := st_k5t
  unfold st_k5 at h
  rw [st_Ss] at h
  have h2 : st_c5 st_F = true := h
  unfold st_c5 at h2
  rw [← st_hY_e 3 (by decide), ← st_hY_e 238 (by decide), ← st_hY_e 0 (by decide), ← st_hY_e 236 (by decide)] at h2
  simp only [Bool.and_eq_true, decide_eq_true_eq] at h2
  obtain ⟨a0, a1, a2, a3, a4, a5, a6, a7, a8, a9, b0, b1, b2, c0, c1, c2⟩ := h2
  refine ⟨⟨⟨a0, a1, a2, a3, a4, a5, a6, a7, a8, a9⟩, fun i hi => ?_, fun i hi => ?_, fun i hi => ?_⟩, by rw [c0, c1], fun e => ?_, GPS.zero (by rw [c2]; exact Int.le_refl _)⟩
  · rw [b0] at hi; exact absurd hi (by omega)
  · rw [b1] at hi; exact absurd hi (by omega)
  · rw [b2] at hi; exact absurd hi (by omega)
  · rw [c0] at e; exact absurd e (by decide)
noncomputable def st_c6 (F : y_F) : Bool := decide (st_hY F 3 2 = 0) && (decide (st_hY F 63 5 = -1) && (decide (st_hY F 18 16 = 0) && (decide (st_hY F 73 2 = 0) && (decide (st_hY F 236 22 = 0) && (decide (st_hY F 0 12 = 0) && (decide (st_hY F 238 2 = 0)))))))
noncomputable def st_c7 (F : y_F) : Bool := (List.range 80).all (fun i => decide (st_hY F 69 i = 21))
noncomputable def st_k6 : Bool := match st_S with | some F => st_c6 F && st_c7 F | none => false
set_option maxRecDepth 1000000 in
theorem st_k6t : st_k6 = true := by decide +kernel
theorem ms_0 {B C D E : Nat → Int} {n : Int} (e : n = 0) : MSE B C D E n.toNat := by
  subst e
  exact fun _ _ => rfl
theorem st_6 : MCI st_h ∧ st_h 63 5 ≤ st_h 18 16 ∧ (st_h 63 5 < st_h 18 16 ∨ (st_h 18 7 ≤ st_h 3 2 ∧ st_h 66 1 = st_h 3 2 - st_h 18 7) ∨ (st_h 3 2 < st_h 18 7 ∧ st_h 66 1 = 0)) ∧ GQS st_h ∧ MR st_h ∧ (st_h 0 12 = 1 → SM st_h) := by
  have h := st_k6t
  unfold st_k6 at h
  rw [st_Ss] at h
  have h2 : (st_c6 st_F && st_c7 st_F) = true := h
  rw [Bool.and_eq_true] at h2
  obtain ⟨h3, h4⟩ := h2
  unfold st_c6 at h3
  rw [← st_hY_e 3 (by decide), ← st_hY_e 63 (by decide), ← st_hY_e 18 (by decide), ← st_hY_e 73 (by decide), ← st_hY_e 236 (by decide), ← st_hY_e 0 (by decide), ← st_hY_e 238 (by decide)] at h3
  simp only [Bool.and_eq_true, decide_eq_true_eq] at h3
  obtain ⟨a1, a2, a3, a4, a5, a6, a7⟩ := h3
  unfold st_c7 at h4
  rw [← st_hY_e 69 (by decide), List.all_eq_true] at h4
  have nb : NBc (st_h 69) (st_h 70) := fun i hi hw => by
    have h5 := h4 i (List.mem_range.mpr hi)
    rw [decide_eq_true_eq] at h5
    omega
  refine ⟨⟨⟨ms_0 a1, fun i hi => absurd hi (by omega), fun e => absurd e (by omega)⟩, HIv.zero (by omega), nb⟩, by omega, Or.inl (by omega), GQS.zero (by omega) (by omega), ms_0 a1, fun e => absurd e (by omega)⟩
theorem st_e6 : 6 * st_h 18 16 ≤ 300000 * 0 := by
  have h := st_k6t
  unfold st_k6 at h
  rw [st_Ss] at h
  have h2 : (st_c6 st_F && st_c7 st_F) = true := h
  rw [Bool.and_eq_true] at h2
  have h3 := h2.1
  unfold st_c6 at h3
  rw [← st_hY_e 18 (by decide)] at h3
  simp only [Bool.and_eq_true, decide_eq_true_eq] at h3
  omega
theorem md_run {L : Nat} {xs : Nat → Int32} (hL : L ≤ 3072) : ∃ f d W2 b2 c2, d ≤ 2000 ∧ mm_ex (md_xa (L, xs)) f d 0 (0, [(0, .ref mm_XB)], [], [], md_cells, md_slots) = some (.inl (some (.int 1)), W2, b2, c2) := by
  have w : wp (md_xa (L, xs)) (94 + 107) 0 (23, [(0, .ref mm_XB), (1, .ref 0), (2, .ref 236), (3, .ref 259), (4, vi 0)], [], hp_w st_h st_r, st_b, st_c) (fun v _ _ _ => v = .inl (some (.int 1))) :=
    lc_loop (d := 94) st_3.2 hL (fun _ _ _ => rfl) st_h st_b st_c ⟨⟨st_GI, st_3.1.1, st_3.1.2.1, st_3.1.2.2.1, st_3.1.2.2.2, st_4.1, st_4.2.1, st_4.2.2, st_5.1, st_5.2.1, st_5.2.2.1, st_5.2.2.2, st_6⟩, st_e6⟩ (by decide) (by decide)
  have w2 := wp.lo (lo := [(0, .ref mm_XB), (1, .ref 0), (2, .ref 236), (3, .ref 259), (4, vi 0)]) (lo2 := st_lo) ⟨rfl, rfl, rfl, rfl, rfl, trivial⟩ rfl w
  rw [st_We] at w2
  obtain ⟨v, W2, b2, c2, h1, rfl⟩ := w2
  obtain ⟨f, h⟩ := mm_go_ev (d := 200) (md_xz_le (L, xs)) 13 _ _ st_Se0 h1
  exact ⟨f, 201, W2, b2, c2, by decide, h⟩
