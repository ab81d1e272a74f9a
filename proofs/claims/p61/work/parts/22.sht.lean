/-! ===== what the tables hold lies outside of every world (laid by wip/p61/shift1.py) ===== -/
theorem md_xoL_is : (md_xoL.all fun r => r.all fun o => match o with | some v => mm_isx v | none => true) = true := by decide +kernel
theorem md_xois : ∀ i k v, md_xo i k = some v → mm_isx v = true := by
  intro i k v h
  unfold md_xo at h
  split at h
  · cases h; rfl
  · cases h1 : md_xoL[i]? with
    | none => rw [h1] at h; simp at h
    | some r =>
      rw [h1] at h
      have h : (r[k]?).getD none = some v := h
      cases h2 : r[k]? with
      | none => rw [h2] at h; cases h
      | some o =>
        rw [h2] at h
        have h : o = some v := h
        have h3 := List.all_eq_true.mp (List.all_eq_true.mp md_xoL_is r (List.mem_of_getElem? h1)) o (List.mem_of_getElem? h2)
        rw [h] at h3
        exact h3
theorem md_stL_is : (md_stL.all fun q => mm_isx q.2.2.2) = true := by decide +kernel
theorem md_stis (i : Nat) : mm_isx (md_st i) = true := by
  unfold md_st
  cases h : md_stL[i]? with
  | none => rfl
  | some q => exact List.all_eq_true.mp md_stL_is q (List.mem_of_getElem? h)
theorem md_dfL_nr : (md_dfL.all fun l => l.all mm_nr) = true := by decide +kernel
theorem md_dfnr (i : Nat) : ∀ v ∈ md_df i, mm_nr v = true := by
  unfold md_df
  cases h : md_dfL[i]? with
  | none => exact fun v hv => absurd hv List.not_mem_nil
  | some l => exact fun v hv => List.all_eq_true.mp (List.all_eq_true.mp md_dfL_nr l (List.mem_of_getElem? h)) v hv
theorem md_shtb : sh_tb := ⟨md_xois, md_stis, md_dfnr⟩
theorem md_gis {l : List Value} (h : l.all mm_isx = true) (j : Nat) : mm_isx (l.getD j .null) = true := by
  rw [List.getD_eq_getElem?_getD]
  cases h1 : l[j]? with
  | none => rfl
  | some v => exact List.all_eq_true.mp h v (List.mem_of_getElem? h1)
theorem md_xaLis : ∀ o ∈ md_xaL, ∀ (t m : Nat) (f : Nat → Value), o = some (t, m, f) → ∀ j, mm_isx (f j) = true :=
  List.forall_mem_cons.mpr ⟨fun _ _ _ h => by cases h, 
  List.forall_mem_cons.mpr ⟨fun _ _ _ h => by cases h, 
  List.forall_mem_cons.mpr ⟨fun _ _ _ h => by cases h, 
  List.forall_mem_cons.mpr ⟨fun _ _ _ h => by cases h, 
  List.forall_mem_cons.mpr ⟨fun _ _ _ h => by cases h, 
  List.forall_mem_cons.mpr ⟨fun _ _ _ h => by cases h, 
  List.forall_mem_cons.mpr ⟨fun _ _ _ h => by cases h, 
  List.forall_mem_cons.mpr ⟨fun _ _ _ h => by cases h, 
  List.forall_mem_cons.mpr ⟨fun _ _ _ h => by cases h, 
  List.forall_mem_cons.mpr ⟨fun _ _ _ h => by cases h, 
  List.forall_mem_cons.mpr ⟨fun _ _ _ h => by cases h, 
  List.forall_mem_cons.mpr ⟨fun _ _ _ h => by cases h, 
  List.forall_mem_cons.mpr ⟨fun _ _ _ h => by cases h, 
  List.forall_mem_cons.mpr ⟨fun _ _ _ h => by cases h, 
  List.forall_mem_cons.mpr ⟨fun _ _ _ h => by cases h, 
  List.forall_mem_cons.mpr ⟨fun _ _ _ h => by cases h, 
  List.forall_mem_cons.mpr ⟨fun _ _ _ h => by cases h, 
  List.forall_mem_cons.mpr ⟨fun _ _ _ h => by cases h, 
  List.forall_mem_cons.mpr ⟨fun _ _ _ h => by cases h, 
  List.forall_mem_cons.mpr ⟨fun _ _ _ h => by cases h, 
  List.forall_mem_cons.mpr ⟨fun _ _ _ h => by cases h, 
  List.forall_mem_cons.mpr ⟨fun _ _ _ h => by cases h, 
  List.forall_mem_cons.mpr ⟨fun _ _ _ h => by cases h; exact md_gis (by decide +kernel), 
  List.forall_mem_cons.mpr ⟨fun _ _ _ h => by cases h; exact md_gis (by decide +kernel), 
  List.forall_mem_cons.mpr ⟨fun _ _ _ h => by cases h, 
  List.forall_mem_cons.mpr ⟨fun _ _ _ h => by cases h, 
  List.forall_mem_cons.mpr ⟨fun _ _ _ h => by cases h, 
  List.forall_mem_cons.mpr ⟨fun _ _ _ h => by cases h, 
  List.forall_mem_cons.mpr ⟨fun _ _ _ h => by cases h, 
  List.forall_mem_cons.mpr ⟨fun _ _ _ h => by cases h, 
  List.forall_mem_cons.mpr ⟨fun _ _ _ h => by cases h, 
  List.forall_mem_cons.mpr ⟨fun _ _ _ h => by cases h, 
  List.forall_mem_cons.mpr ⟨fun _ _ _ h => by cases h, 
  List.forall_mem_cons.mpr ⟨fun _ _ _ h => by cases h, 
  List.forall_mem_cons.mpr ⟨fun _ _ _ h => by cases h, 
  List.forall_mem_cons.mpr ⟨fun _ _ _ h => by cases h, 
  List.forall_mem_cons.mpr ⟨fun _ _ _ h => by cases h, 
  List.forall_mem_cons.mpr ⟨fun _ _ _ h => by cases h, 
  List.forall_mem_cons.mpr ⟨fun _ _ _ h => by cases h, 
  List.forall_mem_cons.mpr ⟨fun _ _ _ h => by cases h, 
  List.forall_mem_cons.mpr ⟨fun _ _ _ h => by cases h, 
  List.forall_mem_cons.mpr ⟨fun _ _ _ h => by cases h; exact md_gis (by decide +kernel), 
  List.forall_mem_cons.mpr ⟨fun _ _ _ h => by cases h; exact md_gis (by decide +kernel), 
  List.forall_mem_cons.mpr ⟨fun _ _ _ h => by cases h; exact md_gis (by decide +kernel), 
  List.forall_mem_cons.mpr ⟨fun _ _ _ h => by cases h; exact md_gis (by decide +kernel), 
  List.forall_mem_cons.mpr ⟨fun _ _ _ h => by cases h; exact md_gis (by decide +kernel), 
  List.forall_mem_cons.mpr ⟨fun _ _ _ h => by cases h; exact md_gis (by decide +kernel), 
  List.forall_mem_cons.mpr ⟨fun _ _ _ h => by cases h; exact md_gis (by decide +kernel), 
  List.forall_mem_cons.mpr ⟨fun _ _ _ h => by cases h; exact md_gis (by decide +kernel), 
  List.forall_mem_cons.mpr ⟨fun _ _ _ h => by cases h; exact md_gis (by decide +kernel), 
  List.forall_mem_cons.mpr ⟨fun _ _ _ h => by cases h; exact md_gis (by decide +kernel), 
  List.forall_mem_cons.mpr ⟨fun _ _ _ h => by cases h; exact md_gis (by decide +kernel), 
  List.forall_mem_cons.mpr ⟨fun _ _ _ h => by cases h; exact md_gis (by decide +kernel), 
  List.forall_mem_cons.mpr ⟨fun _ _ _ h => by cases h; exact md_gis (by decide +kernel), 
  List.forall_mem_cons.mpr ⟨fun _ _ _ h => by cases h; exact md_gis (by decide +kernel), 
  List.forall_mem_cons.mpr ⟨fun _ _ _ h => by cases h; exact md_gis (by decide +kernel), 
  List.forall_mem_cons.mpr ⟨fun _ _ _ h => by cases h; exact md_gis (by decide +kernel), 
  List.forall_mem_cons.mpr ⟨fun _ _ _ h => by cases h; exact md_gis (by decide +kernel), 
  List.forall_mem_cons.mpr ⟨fun _ _ _ h => by cases h, 
  List.forall_mem_cons.mpr ⟨fun _ _ _ h => by cases h, 
  List.forall_mem_cons.mpr ⟨fun _ _ _ h => by cases h, 
  List.forall_mem_cons.mpr ⟨fun _ _ _ h => by cases h, 
  List.forall_mem_cons.mpr ⟨fun _ _ _ h => by cases h, 
  List.forall_mem_cons.mpr ⟨fun _ _ _ h => by cases h, 
  List.forall_mem_cons.mpr ⟨fun _ _ _ h => by cases h, 
  List.forall_mem_cons.mpr ⟨fun _ _ _ h => by cases h, 
  List.forall_mem_cons.mpr ⟨fun _ _ _ h => by cases h, 
  List.forall_mem_cons.mpr ⟨fun _ _ _ h => by cases h, 
  List.forall_mem_cons.mpr ⟨fun _ _ _ h => by cases h, 
  List.forall_mem_cons.mpr ⟨fun _ _ _ h => by cases h, 
  List.forall_mem_cons.mpr ⟨fun _ _ _ h => by cases h, 
  List.forall_mem_cons.mpr ⟨fun _ _ _ h => by cases h, 
  List.forall_mem_cons.mpr ⟨fun _ _ _ h => by cases h, 
  List.forall_mem_cons.mpr ⟨fun _ _ _ h => by cases h, 
  List.forall_mem_cons.mpr ⟨fun _ _ _ h => by cases h, 
  List.forall_mem_cons.mpr ⟨fun _ _ _ h => by cases h, 
  List.forall_mem_cons.mpr ⟨fun _ _ _ h => by cases h, 
  List.forall_mem_cons.mpr ⟨fun _ _ _ h => by cases h, 
  List.forall_mem_cons.mpr ⟨fun _ _ _ h => by cases h, 
  List.forall_mem_cons.mpr ⟨fun _ _ _ h => by cases h, 
  List.forall_mem_cons.mpr ⟨fun _ _ _ h => by cases h, 
  List.forall_mem_cons.mpr ⟨fun _ _ _ h => by cases h, 
  List.forall_mem_cons.mpr ⟨fun _ _ _ h => by cases h, 
  List.forall_mem_cons.mpr ⟨fun _ _ _ h => by cases h, 
  List.forall_mem_cons.mpr ⟨fun _ _ _ h => by cases h, 
  List.forall_mem_cons.mpr ⟨fun _ _ _ h => by cases h, 
  List.forall_mem_cons.mpr ⟨fun _ _ _ h => by cases h, 
  List.forall_mem_cons.mpr ⟨fun _ _ _ h => by cases h, 
  List.forall_mem_cons.mpr ⟨fun _ _ _ h => by cases h; exact md_gis (by decide +kernel), 
  List.forall_mem_cons.mpr ⟨fun _ _ _ h => by cases h; exact md_gis (by decide +kernel), 
  List.forall_mem_cons.mpr ⟨fun _ _ _ h => by cases h; exact fun _ => rfl, 
  List.forall_mem_cons.mpr ⟨fun _ _ _ h => by cases h; exact fun j => decide_eq_true (by show 1000000 ≤ 1000000 + (92 + j); omega), fun _ h => nomatch h⟩⟩⟩⟩⟩⟩⟩⟩⟩⟩⟩⟩⟩⟩⟩⟩⟩⟩⟩⟩⟩⟩⟩⟩⟩⟩⟩⟩⟩⟩⟩⟩⟩⟩⟩⟩⟩⟩⟩⟩⟩⟩⟩⟩⟩⟩⟩⟩⟩⟩⟩⟩⟩⟩⟩⟩⟩⟩⟩⟩⟩⟩⟩⟩⟩⟩⟩⟩⟩⟩⟩⟩⟩⟩⟩⟩⟩⟩⟩⟩⟩⟩⟩⟩⟩⟩⟩⟩⟩⟩⟩⟩
theorem md_shok (L : Nat) (xs : Nat → Int32) : sh_ok (md_xa (L, xs)) := by
  intro i t m f h
  unfold md_xa at h
  dsimp only at h
  split at h
  · cases h; exact fun _ => rfl
  · cases h1 : md_xaL[i]? with
    | none => rw [h1] at h; cases h
    | some o =>
      rw [h1] at h
      exact md_xaLis o (List.mem_of_getElem? h1) t m f h
