/-! ===== the law's run ===== -/
theorem md_run {L : Nat} {xs : Nat → Int32} (hL : L ≤ 3072) : ∃ f d W2 b2 c2, d ≤ 2000 ∧ mm_ex (md_xa (L, xs)) f d 0 (0, [(0, .ref mm_XB)], [], [], md_cells, md_slots) = some (.inl (some (.int 1)), W2, b2, c2) := by
  have w : wp (md_xa (L, xs)) (94 + 107) 0 (23, [(0, .ref mm_XB), (1, .ref 0), (2, .ref 236), (3, .ref 259), (4, vi 0)], [], hp_w st_h st_r, st_b, st_c) (fun v _ _ _ => v = .inl (some (.int 1))) :=
    lc_loop (d := 94) st_3.2 hL (fun _ _ _ => rfl) st_h st_b st_c ⟨st_GI, st_3.1⟩ (by decide) (by decide)
  have w2 := wp.lo (lo := [(0, .ref mm_XB), (1, .ref 0), (2, .ref 236), (3, .ref 259), (4, vi 0)]) (lo2 := st_lo) ⟨rfl, rfl, rfl, rfl, rfl, trivial⟩ rfl w
  rw [st_We] at w2
  obtain ⟨v, W2, b2, c2, h1, rfl⟩ := w2
  obtain ⟨f, h⟩ := mm_go_ev (d := 200) (md_xz_le (L, xs)) 13 _ _ st_Se0 h1
  exact ⟨f, 201, W2, b2, c2, by decide, h⟩
