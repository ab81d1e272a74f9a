set_option maxRecDepth 1000000 in
theorem md_k0_6 : mm_chkM 0 ((md_L0.drop 60).take 10) = true := by decide +kernel
set_option maxRecDepth 1000000 in
theorem md_k0_7 : mm_chkM 0 ((md_L0.drop 70).take 10) = true := by decide +kernel
set_option maxRecDepth 1000000 in
theorem md_k0_8 : mm_chkM 0 ((md_L0.drop 80).take 10) = true := by decide +kernel
