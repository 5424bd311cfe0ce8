/-! THE TABLES ARE RIGHT, 10: the checks run (written by program). -/
theorem rb_273 : rowsB 273 (rowsOf 273) = true := by decide +kernel
theorem rb_274 : rowsB 274 (rowsOf 274) = true := by decide +kernel
theorem rb_275 : rowsB 275 (rowsOf 275) = true := by decide +kernel
theorem rb_276 : rowsB 276 (rowsOf 276) = true := by decide +kernel
theorem rb_277 : rowsB 277 (rowsOf 277) = true := by decide +kernel
theorem rb_278 : rowsB 278 (rowsOf 278) = true := by decide +kernel
theorem rb_279 : rowsB 279 (rowsOf 279) = true := by decide +kernel
theorem rb_280 : rowsB 280 (rowsOf 280) = true := by decide +kernel
theorem rb_281 : rowsB 281 (rowsOf 281) = true := by decide +kernel
theorem rb_282 : rowsB 282 (rowsOf 282) = true := by decide +kernel
theorem rb_283 : rowsB 283 (rowsOf 283) = true := by decide +kernel
theorem rb_284 : rowsB 284 (rowsOf 284) = true := by decide +kernel
theorem rb_285 : rowsB 285 (rowsOf 285) = true := by decide +kernel
theorem rb_286 : rowsB 286 (rowsOf 286) = true := by decide +kernel
theorem rp_287_0 : rowsB 287 (((rowsOf 287).drop 0).take 6) = true := by decide +kernel
theorem rp_287_6 : rowsB 287 (((rowsOf 287).drop 6).take 1) = true := by decide +kernel
theorem rp_287_e : rowsB 287 ((rowsOf 287).drop 7) = true := by decide +kernel
theorem rb_287 : rowsB 287 (rowsOf 287) = true := rows_drop 0 6 rp_287_0 (rows_drop 6 1 rp_287_6 rp_287_e)
theorem rb_288 : rowsB 288 (rowsOf 288) = true := by decide +kernel
theorem rb_289 : rowsB 289 (rowsOf 289) = true := by decide +kernel
theorem rb_290 : rowsB 290 (rowsOf 290) = true := by decide +kernel
theorem rb_291 : rowsB 291 (rowsOf 291) = true := by decide +kernel
theorem rb_292 : rowsB 292 (rowsOf 292) = true := by decide +kernel
theorem rb_293 : rowsB 293 (rowsOf 293) = true := by decide +kernel
theorem rb_294 : rowsB 294 (rowsOf 294) = true := by decide +kernel
theorem rb_295 : rowsB 295 (rowsOf 295) = true := by decide +kernel
theorem rp_296_0 : rowsB 296 (((rowsOf 296).drop 0).take 6) = true := by decide +kernel
theorem rp_296_6 : rowsB 296 (((rowsOf 296).drop 6).take 3) = true := by decide +kernel
theorem rp_296_e : rowsB 296 ((rowsOf 296).drop 9) = true := by decide +kernel
theorem rb_296 : rowsB 296 (rowsOf 296) = true := rows_drop 0 6 rp_296_0 (rows_drop 6 3 rp_296_6 rp_296_e)
theorem rb_297 : rowsB 297 (rowsOf 297) = true := by decide +kernel
theorem rb_298 : rowsB 298 (rowsOf 298) = true := by decide +kernel
theorem rb_299 : rowsB 299 (rowsOf 299) = true := by decide +kernel
theorem rp_300_0 : rowsB 300 (((rowsOf 300).drop 0).take 6) = true := by decide +kernel
theorem rp_300_6 : rowsB 300 (((rowsOf 300).drop 6).take 5) = true := by decide +kernel
theorem rp_300_e : rowsB 300 ((rowsOf 300).drop 11) = true := by decide +kernel
theorem rb_300 : rowsB 300 (rowsOf 300) = true := rows_drop 0 6 rp_300_0 (rows_drop 6 5 rp_300_6 rp_300_e)
