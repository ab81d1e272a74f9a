theorem md_grp : (List.range 64).all (fun k => k == 0 || List.elem k lu_ks || List.elem k md_gl0 || List.elem k md_gl1 || List.elem k md_gl2) = true := by decide +kernel
theorem md_doall (k : Nat) (hk : k < 64) (h0 : k ≠ 0) (hl : ¬ k ∈ lu_ks) (q : Nat × Int × Int) (hq : q ∈ md_cc k) : md_do k q = true := by
  have h2 := List.all_eq_true.mp md_grp k (List.mem_range.mpr hk)
  simp only [Bool.or_eq_true, beq_iff_eq] at h2
  rcases h2 with (((h2 | h2) | h) | h) | h
  · exact absurd h2 h0
  · exact absurd (List.mem_of_elem_eq_true h2) hl
  · exact List.all_eq_true.mp (List.all_eq_true.mp md_g0 k (List.mem_of_elem_eq_true h)) q hq
  · exact List.all_eq_true.mp (List.all_eq_true.mp md_g1 k (List.mem_of_elem_eq_true h)) q hq
  · exact List.all_eq_true.mp (List.all_eq_true.mp md_g2 k (List.mem_of_elem_eq_true h)) q hq
theorem md_run {L : Nat} {xs : Nat → Int32} (hL : L ≤ 6) : ∃ f d W2 b2 c2, d ≤ 2000 ∧ mm_ex (md_xa (L, xs)) f d 0 (0, [(0, .ref mm_XB)], [], [], md_cells, md_slots) = some (.inl (some (.int 1)), W2, b2, c2) := by
  have key : ∃ W2 b2 c2, Ev (md_xa (L, xs)) 41 0 (0, [(0, .ref mm_XB)], [], [], md_cells, md_slots) (.inl (some (.int 1)), W2, b2, c2) := by
    by_cases h6 : L < 6
    · exact md_short h6
    · have e6 : L = 6 := by omega
      subst e6
      obtain ⟨k, hk, hx⟩ := md_and63 (xs 0)
      have hc : ∃ W2 b2 c2, Ev (md_xa (6, xs)) 41 0 (md_pc k, md_lo 0, [], y_a md_zW, md_zb, md_zn) (.inl (some (.int 1)), W2, b2, c2) := by
        by_cases h0 : k = 0
        · subst h0
          exact md_feed xs
        · have hz1 : -2147483648 ≤ (xs 1).toInt := Int32.le_toInt (xs 1)
          have hz2 : (xs 1).toInt ≤ 2147483647 := by
            have := Int32.toInt_lt (xs 1)
            omega
          obtain ⟨⟨n, p, q⟩, hq, hp1, hp2⟩ := md_covs _ _ _ (md_cova k hk h0) hz1 hz2
          by_cases hl : k ∈ lu_ks
          · exact md_lu xs k hl
          · exact md_case hp1 hp2 (md_doall k hk h0 hl _ hq)
      obtain ⟨W2, b2, c2, hE⟩ := hc
      exact ⟨W2, b2, c2, md_pre (md_ent hk hx hE)⟩
  obtain ⟨W2, b2, c2, f, hE⟩ := key
  exact ⟨f, 41, W2, b2, c2, by decide, hE⟩
