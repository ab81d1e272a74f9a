def md_gl1 : List Nat := [38]
set_option maxRecDepth 1000000 in
theorem md_g1 : md_gl1.all (fun k => (md_cc k).all (fun q => md_do k q)) = true := by decide +kernel
