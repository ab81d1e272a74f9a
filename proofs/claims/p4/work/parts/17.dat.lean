/-! ===== the tables' own facts ===== -/
set_option maxRecDepth 1000000 in
theorem md_d0a : ∀ w ∈ u_ws "PaintBank" md_F0 13, w ∈ lw_tbl ∧ goodWord w = true := by decide +kernel
theorem md_d0b : ∀ k, k < 13 → parseFieldDescriptor (md_F0 k).2.2.1 = some ((parseFieldDescriptor (md_F0 k).2.2.1).getD .int) := by decide +kernel
theorem md_d0c : ∀ k, k < 13 → defaultValue ((parseFieldDescriptor (md_F0 k).2.2.1).getD .int) = vp_V (md_df 0) k := by decide +kernel
set_option maxRecDepth 1000000 in
theorem md_d0d : ∀ a, a < 13 → ∀ b, b < 13 → a ≠ b → (md_F0 a).2.1 ≠ (md_F0 b).2.1 := by decide +kernel
theorem md_d0e : ∀ v ∈ md_df 0, mm_isx v = true ∧ mm_nr v = true := by decide +kernel
set_option maxRecDepth 1000000 in
theorem md_d1a : ∀ w ∈ u_ws "PaintBank$Text" md_F1 10, w ∈ lw_tbl ∧ goodWord w = true := by decide +kernel
theorem md_d1b : ∀ k, k < 10 → parseFieldDescriptor (md_F1 k).2.2.1 = some ((parseFieldDescriptor (md_F1 k).2.2.1).getD .int) := by decide +kernel
theorem md_d1c : ∀ k, k < 10 → defaultValue ((parseFieldDescriptor (md_F1 k).2.2.1).getD .int) = vp_V (md_df 1) k := by decide +kernel
set_option maxRecDepth 1000000 in
theorem md_d1d : ∀ a, a < 10 → ∀ b, b < 10 → a ≠ b → (md_F1 a).2.1 ≠ (md_F1 b).2.1 := by decide +kernel
theorem md_d1e : ∀ v ∈ md_df 1, mm_isx v = true ∧ mm_nr v = true := by decide +kernel
set_option maxRecDepth 1000000 in
theorem md_d2a : ∀ w ∈ u_ws "PaintBank$Setup" md_F2 16, w ∈ lw_tbl ∧ goodWord w = true := by decide +kernel
theorem md_d2b : ∀ k, k < 16 → parseFieldDescriptor (md_F2 k).2.2.1 = some ((parseFieldDescriptor (md_F2 k).2.2.1).getD .int) := by decide +kernel
theorem md_d2c : ∀ k, k < 16 → defaultValue ((parseFieldDescriptor (md_F2 k).2.2.1).getD .int) = vp_V (md_df 2) k := by decide +kernel
set_option maxRecDepth 1000000 in
theorem md_d2d : ∀ a, a < 16 → ∀ b, b < 16 → a ≠ b → (md_F2 a).2.1 ≠ (md_F2 b).2.1 := by decide +kernel
theorem md_d2e : ∀ v ∈ md_df 2, mm_isx v = true ∧ mm_nr v = true := by decide +kernel
set_option maxRecDepth 1000000 in
theorem md_d3a : ∀ w ∈ u_ws "PaintBank$SetupReader" md_F3 6, w ∈ lw_tbl ∧ goodWord w = true := by decide +kernel
theorem md_d3b : ∀ k, k < 6 → parseFieldDescriptor (md_F3 k).2.2.1 = some ((parseFieldDescriptor (md_F3 k).2.2.1).getD .int) := by decide +kernel
theorem md_d3c : ∀ k, k < 6 → defaultValue ((parseFieldDescriptor (md_F3 k).2.2.1).getD .int) = vp_V (md_df 3) k := by decide +kernel
set_option maxRecDepth 1000000 in
theorem md_d3d : ∀ a, a < 6 → ∀ b, b < 6 → a ≠ b → (md_F3 a).2.1 ≠ (md_F3 b).2.1 := by decide +kernel
theorem md_d3e : ∀ v ∈ md_df 3, mm_isx v = true ∧ mm_nr v = true := by decide +kernel
set_option maxRecDepth 1000000 in
theorem md_d4a : ∀ w ∈ u_ws "PaintBank$Line" md_F4 17, w ∈ lw_tbl ∧ goodWord w = true := by decide +kernel
theorem md_d4b : ∀ k, k < 17 → parseFieldDescriptor (md_F4 k).2.2.1 = some ((parseFieldDescriptor (md_F4 k).2.2.1).getD .int) := by decide +kernel
theorem md_d4c : ∀ k, k < 17 → defaultValue ((parseFieldDescriptor (md_F4 k).2.2.1).getD .int) = vp_V (md_df 4) k := by decide +kernel
set_option maxRecDepth 1000000 in
theorem md_d4d : ∀ a, a < 17 → ∀ b, b < 17 → a ≠ b → (md_F4 a).2.1 ≠ (md_F4 b).2.1 := by decide +kernel
theorem md_d4e : ∀ v ∈ md_df 4, mm_isx v = true ∧ mm_nr v = true := by decide +kernel
set_option maxRecDepth 1000000 in
theorem md_d5a : ∀ w ∈ u_ws "PaintBank$Row" md_F5 2, w ∈ lw_tbl ∧ goodWord w = true := by decide +kernel
theorem md_d5b : ∀ k, k < 2 → parseFieldDescriptor (md_F5 k).2.2.1 = some ((parseFieldDescriptor (md_F5 k).2.2.1).getD .int) := by decide +kernel
theorem md_d5c : ∀ k, k < 2 → defaultValue ((parseFieldDescriptor (md_F5 k).2.2.1).getD .int) = vp_V (md_df 5) k := by decide +kernel
set_option maxRecDepth 1000000 in
theorem md_d5d : ∀ a, a < 2 → ∀ b, b < 2 → a ≠ b → (md_F5 a).2.1 ≠ (md_F5 b).2.1 := by decide +kernel
theorem md_d5e : ∀ v ∈ md_df 5, mm_isx v = true ∧ mm_nr v = true := by decide +kernel
set_option maxRecDepth 1000000 in
theorem md_d6a : ∀ w ∈ u_ws "PaintBank$Unloading" md_F6 13, w ∈ lw_tbl ∧ goodWord w = true := by decide +kernel
theorem md_d6b : ∀ k, k < 13 → parseFieldDescriptor (md_F6 k).2.2.1 = some ((parseFieldDescriptor (md_F6 k).2.2.1).getD .int) := by decide +kernel
theorem md_d6c : ∀ k, k < 13 → defaultValue ((parseFieldDescriptor (md_F6 k).2.2.1).getD .int) = vp_V (md_df 6) k := by decide +kernel
set_option maxRecDepth 1000000 in
theorem md_d6d : ∀ a, a < 13 → ∀ b, b < 13 → a ≠ b → (md_F6 a).2.1 ≠ (md_F6 b).2.1 := by decide +kernel
theorem md_d6e : ∀ v ∈ md_df 6, mm_isx v = true ∧ mm_nr v = true := by decide +kernel
set_option maxRecDepth 1000000 in
theorem md_d7a : ∀ w ∈ u_ws "PaintBank$Exchange" md_F7 8, w ∈ lw_tbl ∧ goodWord w = true := by decide +kernel
theorem md_d7b : ∀ k, k < 8 → parseFieldDescriptor (md_F7 k).2.2.1 = some ((parseFieldDescriptor (md_F7 k).2.2.1).getD .int) := by decide +kernel
theorem md_d7c : ∀ k, k < 8 → defaultValue ((parseFieldDescriptor (md_F7 k).2.2.1).getD .int) = vp_V (md_df 7) k := by decide +kernel
set_option maxRecDepth 1000000 in
theorem md_d7d : ∀ a, a < 8 → ∀ b, b < 8 → a ≠ b → (md_F7 a).2.1 ≠ (md_F7 b).2.1 := by decide +kernel
theorem md_d7e : ∀ v ∈ md_df 7, mm_isx v = true ∧ mm_nr v = true := by decide +kernel
set_option maxRecDepth 1000000 in
theorem md_d8a : ∀ w ∈ u_ws "PaintBank$Script" md_F8 11, w ∈ lw_tbl ∧ goodWord w = true := by decide +kernel
theorem md_d8b : ∀ k, k < 11 → parseFieldDescriptor (md_F8 k).2.2.1 = some ((parseFieldDescriptor (md_F8 k).2.2.1).getD .int) := by decide +kernel
theorem md_d8c : ∀ k, k < 11 → defaultValue ((parseFieldDescriptor (md_F8 k).2.2.1).getD .int) = vp_V (md_df 8) k := by decide +kernel
set_option maxRecDepth 1000000 in
theorem md_d8d : ∀ a, a < 11 → ∀ b, b < 11 → a ≠ b → (md_F8 a).2.1 ≠ (md_F8 b).2.1 := by decide +kernel
theorem md_d8e : ∀ v ∈ md_df 8, mm_isx v = true ∧ mm_nr v = true := by decide +kernel
set_option maxRecDepth 1000000 in
theorem md_d9a : ∀ w ∈ u_ws "PaintBank$History" md_F9 3, w ∈ lw_tbl ∧ goodWord w = true := by decide +kernel
theorem md_d9b : ∀ k, k < 3 → parseFieldDescriptor (md_F9 k).2.2.1 = some ((parseFieldDescriptor (md_F9 k).2.2.1).getD .int) := by decide +kernel
theorem md_d9c : ∀ k, k < 3 → defaultValue ((parseFieldDescriptor (md_F9 k).2.2.1).getD .int) = vp_V (md_df 9) k := by decide +kernel
set_option maxRecDepth 1000000 in
theorem md_d9d : ∀ a, a < 3 → ∀ b, b < 3 → a ≠ b → (md_F9 a).2.1 ≠ (md_F9 b).2.1 := by decide +kernel
theorem md_d9e : ∀ v ∈ md_df 9, mm_isx v = true ∧ mm_nr v = true := by decide +kernel
set_option maxRecDepth 1000000 in
theorem md_d10a : ∀ w ∈ u_ws "PaintBank$Report" md_F10 2, w ∈ lw_tbl ∧ goodWord w = true := by decide +kernel
theorem md_d10b : ∀ k, k < 2 → parseFieldDescriptor (md_F10 k).2.2.1 = some ((parseFieldDescriptor (md_F10 k).2.2.1).getD .int) := by decide +kernel
theorem md_d10c : ∀ k, k < 2 → defaultValue ((parseFieldDescriptor (md_F10 k).2.2.1).getD .int) = vp_V (md_df 10) k := by decide +kernel
set_option maxRecDepth 1000000 in
theorem md_d10d : ∀ a, a < 2 → ∀ b, b < 2 → a ≠ b → (md_F10 a).2.1 ≠ (md_F10 b).2.1 := by decide +kernel
theorem md_d10e : ∀ v ∈ md_df 10, mm_isx v = true ∧ mm_nr v = true := by decide +kernel
set_option maxRecDepth 1000000 in
theorem md_d11a : ∀ w ∈ u_ws "PaintBankModel" md_F11 49, w ∈ lw_tbl ∧ goodWord w = true := by decide +kernel
theorem md_d11b : ∀ k, k < 49 → parseFieldDescriptor (md_F11 k).2.2.1 = some ((parseFieldDescriptor (md_F11 k).2.2.1).getD .int) := by decide +kernel
theorem md_d11c : ∀ k, k < 49 → defaultValue ((parseFieldDescriptor (md_F11 k).2.2.1).getD .int) = vp_V (md_df 11) k := by decide +kernel
set_option maxRecDepth 1000000 in
theorem md_d11d : ∀ a, a < 49 → ∀ b, b < 49 → a ≠ b → (md_F11 a).2.1 ≠ (md_F11 b).2.1 := by decide +kernel
theorem md_d11e : ∀ v ∈ md_df 11, mm_isx v = true ∧ mm_nr v = true := by decide +kernel
theorem md_dat : mm_dat := by
  refine ⟨?_, rfl, rfl, rfl, rfl, ?_, by decide +kernel, fun w hw => (List.mem_filter.mp hw).2, fun ci q h => ?_⟩
  · intro ci C T N h
    match ci, h with
    | 0, h =>
      cases h
      exact ⟨fun w hw => mm_wTg (md_d0a w hw).1 (md_d0a w hw).2, ⟨_, md_d0b, md_d0c⟩, md_d0d, md_d0e⟩
    | 1, h =>
      cases h
      exact ⟨fun w hw => mm_wTg (md_d1a w hw).1 (md_d1a w hw).2, ⟨_, md_d1b, md_d1c⟩, md_d1d, md_d1e⟩
    | 2, h =>
      cases h
      exact ⟨fun w hw => mm_wTg (md_d2a w hw).1 (md_d2a w hw).2, ⟨_, md_d2b, md_d2c⟩, md_d2d, md_d2e⟩
    | 3, h =>
      cases h
      exact ⟨fun w hw => mm_wTg (md_d3a w hw).1 (md_d3a w hw).2, ⟨_, md_d3b, md_d3c⟩, md_d3d, md_d3e⟩
    | 4, h =>
      cases h
      exact ⟨fun w hw => mm_wTg (md_d4a w hw).1 (md_d4a w hw).2, ⟨_, md_d4b, md_d4c⟩, md_d4d, md_d4e⟩
    | 5, h =>
      cases h
      exact ⟨fun w hw => mm_wTg (md_d5a w hw).1 (md_d5a w hw).2, ⟨_, md_d5b, md_d5c⟩, md_d5d, md_d5e⟩
    | 6, h =>
      cases h
      exact ⟨fun w hw => mm_wTg (md_d6a w hw).1 (md_d6a w hw).2, ⟨_, md_d6b, md_d6c⟩, md_d6d, md_d6e⟩
    | 7, h =>
      cases h
      exact ⟨fun w hw => mm_wTg (md_d7a w hw).1 (md_d7a w hw).2, ⟨_, md_d7b, md_d7c⟩, md_d7d, md_d7e⟩
    | 8, h =>
      cases h
      exact ⟨fun w hw => mm_wTg (md_d8a w hw).1 (md_d8a w hw).2, ⟨_, md_d8b, md_d8c⟩, md_d8d, md_d8e⟩
    | 9, h =>
      cases h
      exact ⟨fun w hw => mm_wTg (md_d9a w hw).1 (md_d9a w hw).2, ⟨_, md_d9b, md_d9c⟩, md_d9d, md_d9e⟩
    | 10, h =>
      cases h
      exact ⟨fun w hw => mm_wTg (md_d10a w hw).1 (md_d10a w hw).2, ⟨_, md_d10b, md_d10c⟩, md_d10d, md_d10e⟩
    | 11, h =>
      cases h
      exact ⟨fun w hw => mm_wTg (md_d11a w hw).1 (md_d11a w hw).2, ⟨_, md_d11b, md_d11c⟩, md_d11d, md_d11e⟩
    | n + 12, h => exact absurd (List.getElem?_eq_some_iff.mp h).1 (by show ¬ n + 12 < 12; omega)
  · intro t ht
    match t, ht with
    | 4, _ => exact ⟨"PaintBank$Row", rfl, fun _ => ⟨("PaintBank$Row", md_F5, 2), rfl, rfl⟩, fun h => absurd h (by decide +kernel)⟩
    | 5, _ => exact ⟨"PaintBank$Line", rfl, fun _ => ⟨("PaintBank$Line", md_F4, 17), rfl, rfl⟩, fun h => absurd h (by decide +kernel)⟩
    | n + 6, _ => exact ⟨"PaintBank$Word", rfl, fun h => absurd h (show ¬ (1000 : Nat) < 1000 by omega), fun _ => by rw [show md_ac (n + 6) = 1000 from rfl]; decide +kernel⟩
  · have h1 := (List.getElem?_eq_some_iff.mp h).1
    have h2 : md_cl.length = 12 := rfl
    omega
theorem md_plainL : (md_MT.all fun c => c.all fun m => plainFor m.1) = true := by decide +kernel
theorem md_plain (j : Nat) : plainFor (md_mt j).1 = true := by
  unfold md_mt
  cases h : ((md_MT[j / 16]?).getD [])[j % 16]? with
  | none => show plainFor (⟨"A", "", ""⟩ : MethodName) = true; decide +kernel
  | some m =>
    show plainFor m.1 = true
    have h1 := List.mem_of_getElem? h
    cases h2 : md_MT[j / 16]? with
    | none => rw [h2] at h1; cases h1
    | some c =>
      rw [h2] at h1
      exact List.all_eq_true.mp (List.all_eq_true.mp md_plainL c (List.mem_of_getElem? h2)) m h1
theorem md_okall (j pc : Nat) (e : mm_Ent) (h : md_cd j pc = some e) : mm_ok j pc e := by
  unfold md_cd at h
  obtain ⟨hs, h1⟩ := mm_find_in h
  cases h2 : (md_L j)[pc / 16]? with
  | none => rw [h2] at h1; cases h1
  | some ch =>
    rw [h2] at h1
    have h3 : ch ∈ md_L j := List.mem_of_getElem? h2
    have h1 : (pc, e, hs) ∈ ch := h1
    unfold md_L at h3
    cases h4 : md_LL[j / 16]? with
    | none => rw [h4] at h3; exact absurd h3 (by simp)
    | some c =>
      rw [h4] at h3
      have h3 : ch ∈ (c[j % 16]?).getD [] := h3
      cases h5 : c[j % 16]? with
      | none => rw [h5] at h3; cases h3
      | some L =>
        rw [h5] at h3
        have h3 : ch ∈ L := h3
        have h6 := mm_chkAll_at (md_kb _ _ h4) h5
        rw [show 16 * (j / 16) + j % 16 = j by omega] at h6
        exact mm_chkE_ok md_call md_thok (List.all_eq_true.mp (List.all_eq_true.mp h6 ch h3) _ h1)
theorem md_hokall (j pc n h : Nat) (q : md_hd j pc n = some h) : mm_hok j pc n h := by
  unfold md_hd at q
  obtain ⟨z, h1, h2⟩ := Option.map_eq_some_iff.mp q
  have h3 := List.find?_some h1
  simp only [Bool.and_eq_true, beq_iff_eq] at h3
  obtain ⟨⟨h4, h5⟩, h6⟩ := h3
  have h7 := md_hok0 z (List.mem_of_find?_eq_some h1)
  rw [h4, h5, h6, h2] at h7
  exact h7
theorem md_prog : mm_prog := ⟨md_dat, md_okall, md_plain, md_hokall⟩
