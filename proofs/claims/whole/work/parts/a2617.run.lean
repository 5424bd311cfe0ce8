/-! THE TABLES ARE RIGHT, 12: the checks run (written by program). -/
theorem rb_347 : rowsB 347 (rowsOf 347) = true := by decide +kernel
theorem rb_348 : rowsB 348 (rowsOf 348) = true := by decide +kernel
theorem rb_349 : rowsB 349 (rowsOf 349) = true := by decide +kernel
theorem rb_350 : rowsB 350 (rowsOf 350) = true := by decide +kernel
theorem rb_351 : rowsB 351 (rowsOf 351) = true := by decide +kernel
theorem rb_352 : rowsB 352 (rowsOf 352) = true := by decide +kernel
theorem rb_353 : rowsB 353 (rowsOf 353) = true := by decide +kernel
theorem rb_354 : rowsB 354 (rowsOf 354) = true := by decide +kernel
theorem rb_355 : rowsB 355 (rowsOf 355) = true := by decide +kernel
theorem rb_356 : rowsB 356 (rowsOf 356) = true := by decide +kernel
theorem rb_357 : rowsB 357 (rowsOf 357) = true := by decide +kernel
theorem rb_358 : rowsB 358 (rowsOf 358) = true := by decide +kernel
theorem rb_359 : rowsB 359 (rowsOf 359) = true := by decide +kernel
theorem rb_360 : rowsB 360 (rowsOf 360) = true := by decide +kernel
theorem rb_361 : rowsB 361 (rowsOf 361) = true := by decide +kernel
theorem rb_362 : rowsB 362 (rowsOf 362) = true := by decide +kernel
theorem rb_363 : rowsB 363 (rowsOf 363) = true := by decide +kernel
theorem rb_364 : rowsB 364 (rowsOf 364) = true := by decide +kernel
theorem rb_365 : rowsB 365 (rowsOf 365) = true := by decide +kernel
theorem rb_366 : rowsB 366 (rowsOf 366) = true := by decide +kernel
theorem rb_367 : rowsB 367 (rowsOf 367) = true := by decide +kernel
theorem rb_368 : rowsB 368 (rowsOf 368) = true := by decide +kernel
theorem rb_369 : rowsB 369 (rowsOf 369) = true := by decide +kernel
theorem rb_370 : rowsB 370 (rowsOf 370) = true := by decide +kernel
theorem rb_371 : rowsB 371 (rowsOf 371) = true := by decide +kernel
theorem rb_372 : rowsB 372 (rowsOf 372) = true := by decide +kernel
theorem rb_373 : rowsB 373 (rowsOf 373) = true := by decide +kernel
theorem rp_374_0 : rowsB 374 (((rowsOf 374).drop 0).take 4) = true := by decide +kernel
theorem rp_374_4 : rowsB 374 (((rowsOf 374).drop 4).take 3) = true := by decide +kernel
theorem rp_374_7 : rowsB 374 (((rowsOf 374).drop 7).take 2) = true := by decide +kernel
theorem rp_374_9 : rowsB 374 (((rowsOf 374).drop 9).take 2) = true := by decide +kernel
theorem rp_374_11 : rowsB 374 (((rowsOf 374).drop 11).take 2) = true := by decide +kernel
theorem rp_374_13 : rowsB 374 (((rowsOf 374).drop 13).take 2) = true := by decide +kernel
theorem rp_374_15 : rowsB 374 (((rowsOf 374).drop 15).take 2) = true := by decide +kernel
theorem rp_374_17 : rowsB 374 (((rowsOf 374).drop 17).take 1) = true := by decide +kernel
theorem rp_374_18 : rowsB 374 (((rowsOf 374).drop 18).take 1) = true := by decide +kernel
theorem rp_374_19 : rowsB 374 (((rowsOf 374).drop 19).take 1) = true := by decide +kernel
theorem rp_374_20 : rowsB 374 (((rowsOf 374).drop 20).take 1) = true := by decide +kernel
theorem rp_374_21 : rowsB 374 (((rowsOf 374).drop 21).take 1) = true := by decide +kernel
theorem rp_374_22 : rowsB 374 (((rowsOf 374).drop 22).take 1) = true := by decide +kernel
theorem rp_374_23 : rowsB 374 (((rowsOf 374).drop 23).take 1) = true := by decide +kernel
theorem rp_374_24 : rowsB 374 (((rowsOf 374).drop 24).take 1) = true := by decide +kernel
theorem rp_374_25 : rowsB 374 (((rowsOf 374).drop 25).take 1) = true := by decide +kernel
