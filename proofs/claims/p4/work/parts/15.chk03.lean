set_option maxRecDepth 1000000 in
theorem md_k284 : mm_chkM 284 md_L284 = true := by decide +kernel
set_option maxRecDepth 1000000 in
theorem md_k285 : mm_chkM 285 md_L285 = true := by decide +kernel
set_option maxRecDepth 1000000 in
theorem md_k286 : mm_chkM 286 md_L286 = true := by decide +kernel
set_option maxRecDepth 1000000 in
theorem md_k287 : mm_chkM 287 md_L287 = true := by decide +kernel
set_option maxRecDepth 1000000 in
theorem md_k288 : mm_chkM 288 md_L288 = true := by decide +kernel
set_option maxRecDepth 1000000 in
theorem md_k289 : mm_chkM 289 md_L289 = true := by decide +kernel
set_option maxRecDepth 1000000 in
theorem md_k290 : mm_chkM 290 md_L290 = true := by decide +kernel
set_option maxRecDepth 1000000 in
theorem md_k291 : mm_chkM 291 md_L291 = true := by decide +kernel
set_option maxRecDepth 1000000 in
theorem md_k292 : mm_chkM 292 md_L292 = true := by decide +kernel
set_option maxRecDepth 1000000 in
theorem md_k293 : mm_chkM 293 md_L293 = true := by decide +kernel
set_option maxRecDepth 1000000 in
theorem md_k294 : mm_chkM 294 md_L294 = true := by decide +kernel
set_option maxRecDepth 1000000 in
theorem md_k295 : mm_chkM 295 md_L295 = true := by decide +kernel
set_option maxRecDepth 1000000 in
theorem md_k296 : mm_chkM 296 md_L296 = true := by decide +kernel
set_option maxRecDepth 1000000 in
theorem md_k297 : mm_chkM 297 md_L297 = true := by decide +kernel
set_option maxRecDepth 1000000 in
theorem md_k298 : mm_chkM 298 md_L298 = true := by decide +kernel
set_option maxRecDepth 1000000 in
theorem md_k299 : mm_chkM 299 md_L299 = true := by decide +kernel
set_option maxRecDepth 1000000 in
theorem md_k300 : mm_chkM 300 md_L300 = true := by decide +kernel
set_option maxRecDepth 1000000 in
theorem md_k301 : mm_chkM 301 md_L301 = true := by decide +kernel
set_option maxRecDepth 1000000 in
theorem md_k302 : mm_chkM 302 md_L302 = true := by decide +kernel
set_option maxRecDepth 1000000 in
theorem md_k303 : mm_chkM 303 md_L303 = true := by decide +kernel
set_option maxRecDepth 1000000 in
theorem md_k304 : mm_chkM 304 md_L304 = true := by decide +kernel
set_option maxRecDepth 1000000 in
theorem md_k305 : mm_chkM 305 md_L305 = true := by decide +kernel
set_option maxRecDepth 1000000 in
theorem md_k306 : mm_chkM 306 md_L306 = true := by decide +kernel
set_option maxRecDepth 1000000 in
theorem md_k307 : mm_chkM 307 md_L307 = true := by decide +kernel
set_option maxRecDepth 1000000 in
theorem md_k308 : mm_chkM 308 md_L308 = true := by decide +kernel
set_option maxRecDepth 1000000 in
theorem md_k309 : mm_chkM 309 md_L309 = true := by decide +kernel
set_option maxRecDepth 1000000 in
theorem md_k310 : mm_chkM 310 md_L310 = true := by decide +kernel
set_option maxRecDepth 1000000 in
theorem md_k311 : mm_chkM 311 md_L311 = true := by decide +kernel
set_option maxRecDepth 1000000 in
theorem md_k312 : mm_chkM 312 md_L312 = true := by decide +kernel
set_option maxRecDepth 1000000 in
theorem md_k313 : mm_chkM 313 md_L313 = true := by decide +kernel
set_option maxRecDepth 1000000 in
theorem md_k314 : mm_chkM 314 md_L314 = true := by decide +kernel
set_option maxRecDepth 1000000 in
theorem md_k315 : mm_chkM 315 md_L315 = true := by decide +kernel
set_option maxRecDepth 1000000 in
theorem md_k316 : mm_chkM 316 md_L316 = true := by decide +kernel
set_option maxRecDepth 1000000 in
theorem md_k317 : mm_chkM 317 md_L317 = true := by decide +kernel
set_option maxRecDepth 1000000 in
theorem md_k318 : mm_chkM 318 md_L318 = true := by decide +kernel
set_option maxRecDepth 1000000 in
theorem md_k319 : mm_chkM 319 md_L319 = true := by decide +kernel
set_option maxRecDepth 1000000 in
theorem md_k320 : mm_chkM 320 md_L320 = true := by decide +kernel
set_option maxRecDepth 1000000 in
theorem md_k321 : mm_chkM 321 md_L321 = true := by decide +kernel
set_option maxRecDepth 1000000 in
theorem md_k322 : mm_chkM 322 md_L322 = true := by decide +kernel
set_option maxRecDepth 1000000 in
theorem md_k323 : mm_chkM 323 md_L323 = true := by decide +kernel
set_option maxRecDepth 1000000 in
theorem md_k324 : mm_chkM 324 md_L324 = true := by decide +kernel
set_option maxRecDepth 1000000 in
theorem md_k325 : mm_chkM 325 md_L325 = true := by decide +kernel
set_option maxRecDepth 1000000 in
theorem md_k326 : mm_chkM 326 md_L326 = true := by decide +kernel
set_option maxRecDepth 1000000 in
theorem md_k327 : mm_chkM 327 md_L327 = true := by decide +kernel
set_option maxRecDepth 1000000 in
theorem md_k328 : mm_chkM 328 md_L328 = true := by decide +kernel
set_option maxRecDepth 1000000 in
theorem md_k329 : mm_chkM 329 md_L329 = true := by decide +kernel
set_option maxRecDepth 1000000 in
theorem md_k330 : mm_chkM 330 md_L330 = true := by decide +kernel
set_option maxRecDepth 1000000 in
theorem md_k331 : mm_chkM 331 md_L331 = true := by decide +kernel
set_option maxRecDepth 1000000 in
theorem md_k332 : mm_chkM 332 md_L332 = true := by decide +kernel
set_option maxRecDepth 1000000 in
theorem md_k333 : mm_chkM 333 md_L333 = true := by decide +kernel
set_option maxRecDepth 1000000 in
theorem md_k334 : mm_chkM 334 md_L334 = true := by decide +kernel
set_option maxRecDepth 1000000 in
theorem md_k335 : mm_chkM 335 md_L335 = true := by decide +kernel
set_option maxRecDepth 1000000 in
theorem md_k336 : mm_chkM 336 md_L336 = true := by decide +kernel
set_option maxRecDepth 1000000 in
theorem md_k337 : mm_chkM 337 md_L337 = true := by decide +kernel
set_option maxRecDepth 1000000 in
theorem md_k338 : mm_chkM 338 md_L338 = true := by decide +kernel
set_option maxRecDepth 1000000 in
theorem md_k339 : mm_chkM 339 md_L339 = true := by decide +kernel
set_option maxRecDepth 1000000 in
theorem md_k340 : mm_chkM 340 md_L340 = true := by decide +kernel
set_option maxRecDepth 1000000 in
theorem md_k341 : mm_chkM 341 md_L341 = true := by decide +kernel
set_option maxRecDepth 1000000 in
theorem md_k342 : mm_chkM 342 md_L342 = true := by decide +kernel
set_option maxRecDepth 1000000 in
theorem md_k343 : mm_chkM 343 md_L343 = true := by decide +kernel
set_option maxRecDepth 1000000 in
theorem md_k344 : mm_chkM 344 md_L344 = true := by decide +kernel
set_option maxRecDepth 1000000 in
theorem md_k345 : mm_chkM 345 md_L345 = true := by decide +kernel
set_option maxRecDepth 1000000 in
theorem md_k346 : mm_chkM 346 md_L346 = true := by decide +kernel
set_option maxRecDepth 1000000 in
theorem md_k347 : mm_chkM 347 md_L347 = true := by decide +kernel
set_option maxRecDepth 1000000 in
theorem md_k348 : mm_chkM 348 md_L348 = true := by decide +kernel
set_option maxRecDepth 1000000 in
theorem md_k349 : mm_chkM 349 md_L349 = true := by decide +kernel
set_option maxRecDepth 1000000 in
theorem md_k350 : mm_chkM 350 md_L350 = true := by decide +kernel
set_option maxRecDepth 1000000 in
theorem md_k351 : mm_chkM 351 md_L351 = true := by decide +kernel
