set_option maxRecDepth 1000000 in
theorem md_k0_9 : mm_chkM 0 ((md_L0.drop 90).take 10) = true := by decide +kernel
