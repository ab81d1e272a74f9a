set_option maxRecDepth 1000000 in
theorem md_k0_12 : mm_chkM 0 ((md_L0.drop 120).take 10) = true := by decide +kernel
set_option maxRecDepth 1000000 in
theorem md_k0_13 : mm_chkM 0 ((md_L0.drop 130).take 10) = true := by decide +kernel
