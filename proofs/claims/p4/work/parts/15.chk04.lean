set_option maxRecDepth 1000000 in
theorem md_k352 : mm_chkM 352 md_L352 = true := by decide +kernel
set_option maxRecDepth 1000000 in
theorem md_k353 : mm_chkM 353 md_L353 = true := by decide +kernel
set_option maxRecDepth 1000000 in
theorem md_k354 : mm_chkM 354 md_L354 = true := by decide +kernel
set_option maxRecDepth 1000000 in
theorem md_k355 : mm_chkM 355 md_L355 = true := by decide +kernel
set_option maxRecDepth 1000000 in
theorem md_k356 : mm_chkM 356 md_L356 = true := by decide +kernel
set_option maxRecDepth 1000000 in
theorem md_k357 : mm_chkM 357 md_L357 = true := by decide +kernel
set_option maxRecDepth 1000000 in
theorem md_k358 : mm_chkM 358 md_L358 = true := by decide +kernel
set_option maxRecDepth 1000000 in
theorem md_k359 : mm_chkM 359 md_L359 = true := by decide +kernel
set_option maxRecDepth 1000000 in
theorem md_k360 : mm_chkM 360 md_L360 = true := by decide +kernel
set_option maxRecDepth 1000000 in
theorem md_k361 : mm_chkM 361 md_L361 = true := by decide +kernel
set_option maxRecDepth 1000000 in
theorem md_k362 : mm_chkM 362 md_L362 = true := by decide +kernel
set_option maxRecDepth 1000000 in
theorem md_k363 : mm_chkM 363 md_L363 = true := by decide +kernel
set_option maxRecDepth 1000000 in
theorem md_k364 : mm_chkM 364 md_L364 = true := by decide +kernel
set_option maxRecDepth 1000000 in
theorem md_k365 : mm_chkM 365 md_L365 = true := by decide +kernel
set_option maxRecDepth 1000000 in
theorem md_k366 : mm_chkM 366 md_L366 = true := by decide +kernel
