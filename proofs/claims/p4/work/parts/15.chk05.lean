set_option maxRecDepth 1000000 in
theorem md_k0_0 : mm_chkM 0 ((md_L0.drop 0).take 10) = true := by decide +kernel
set_option maxRecDepth 1000000 in
theorem md_k0_1 : mm_chkM 0 ((md_L0.drop 10).take 10) = true := by decide +kernel
set_option maxRecDepth 1000000 in
theorem md_k0_2 : mm_chkM 0 ((md_L0.drop 20).take 10) = true := by decide +kernel
