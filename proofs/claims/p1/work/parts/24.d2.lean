def md_gl2 : List Nat := [49]
set_option maxRecDepth 1000000 in
theorem md_g2 : md_gl2.all (fun k => (md_cc k).all (fun q => md_do k q)) = true := by decide +kernel
