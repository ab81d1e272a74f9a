set_option maxRecDepth 1000000 in
theorem md_k0_3 : mm_chkM 0 ((md_L0.drop 30).take 10) = true := by decide +kernel
set_option maxRecDepth 1000000 in
theorem md_k0_4 : mm_chkM 0 ((md_L0.drop 40).take 10) = true := by decide +kernel
set_option maxRecDepth 1000000 in
theorem md_k0_5 : mm_chkM 0 ((md_L0.drop 50).take 10) = true := by decide +kernel
