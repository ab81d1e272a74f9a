def md_isv (v : Int32) : Option mm_O → Bool
  | some (.inl (some (.int x)), _, _, _) => x == v
  | _ => false
set_option maxRecDepth 1000000 in
theorem md_t1 : md_isv 1 (mm_ex (md_xa (0, fun _ => 0)) 100000 60 0 (0, [(0, .ref mm_XB)], [], [], md_cells, md_slots)) = true := by decide +kernel
