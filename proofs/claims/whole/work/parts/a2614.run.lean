/-! THE TABLES ARE RIGHT, 9: the checks run (written by program). -/
theorem rb_232 : rowsB 232 (rowsOf 232) = true := by decide +kernel
theorem rp_233_0 : rowsB 233 (((rowsOf 233).drop 0).take 6) = true := by decide +kernel
theorem rp_233_6 : rowsB 233 (((rowsOf 233).drop 6).take 4) = true := by decide +kernel
theorem rp_233_10 : rowsB 233 (((rowsOf 233).drop 10).take 2) = true := by decide +kernel
theorem rp_233_e : rowsB 233 ((rowsOf 233).drop 12) = true := by decide +kernel
theorem rb_233 : rowsB 233 (rowsOf 233) = true := rows_drop 0 6 rp_233_0 (rows_drop 6 4 rp_233_6 (rows_drop 10 2 rp_233_10 rp_233_e))
theorem rb_234 : rowsB 234 (rowsOf 234) = true := by decide +kernel
theorem rb_235 : rowsB 235 (rowsOf 235) = true := by decide +kernel
theorem rb_236 : rowsB 236 (rowsOf 236) = true := by decide +kernel
theorem rb_237 : rowsB 237 (rowsOf 237) = true := by decide +kernel
theorem rp_238_0 : rowsB 238 (((rowsOf 238).drop 0).take 6) = true := by decide +kernel
theorem rp_238_6 : rowsB 238 (((rowsOf 238).drop 6).take 4) = true := by decide +kernel
theorem rp_238_e : rowsB 238 ((rowsOf 238).drop 10) = true := by decide +kernel
theorem rb_238 : rowsB 238 (rowsOf 238) = true := rows_drop 0 6 rp_238_0 (rows_drop 6 4 rp_238_6 rp_238_e)
theorem rb_239 : rowsB 239 (rowsOf 239) = true := by decide +kernel
theorem rb_240 : rowsB 240 (rowsOf 240) = true := by decide +kernel
theorem rb_241 : rowsB 241 (rowsOf 241) = true := by decide +kernel
theorem rb_242 : rowsB 242 (rowsOf 242) = true := by decide +kernel
theorem rb_243 : rowsB 243 (rowsOf 243) = true := by decide +kernel
theorem rb_244 : rowsB 244 (rowsOf 244) = true := by decide +kernel
theorem rb_245 : rowsB 245 (rowsOf 245) = true := by decide +kernel
theorem rb_246 : rowsB 246 (rowsOf 246) = true := by decide +kernel
theorem rb_247 : rowsB 247 (rowsOf 247) = true := by decide +kernel
theorem rb_248 : rowsB 248 (rowsOf 248) = true := by decide +kernel
theorem rb_249 : rowsB 249 (rowsOf 249) = true := by decide +kernel
theorem rb_250 : rowsB 250 (rowsOf 250) = true := by decide +kernel
theorem rb_251 : rowsB 251 (rowsOf 251) = true := by decide +kernel
theorem rb_252 : rowsB 252 (rowsOf 252) = true := by decide +kernel
theorem rb_253 : rowsB 253 (rowsOf 253) = true := by decide +kernel
theorem rb_254 : rowsB 254 (rowsOf 254) = true := by decide +kernel
theorem rp_255_0 : rowsB 255 (((rowsOf 255).drop 0).take 6) = true := by decide +kernel
theorem rp_255_6 : rowsB 255 (((rowsOf 255).drop 6).take 3) = true := by decide +kernel
theorem rp_255_e : rowsB 255 ((rowsOf 255).drop 9) = true := by decide +kernel
theorem rb_255 : rowsB 255 (rowsOf 255) = true := rows_drop 0 6 rp_255_0 (rows_drop 6 3 rp_255_6 rp_255_e)
theorem rb_256 : rowsB 256 (rowsOf 256) = true := by decide +kernel
theorem rb_257 : rowsB 257 (rowsOf 257) = true := by decide +kernel
theorem rb_258 : rowsB 258 (rowsOf 258) = true := by decide +kernel
theorem rb_259 : rowsB 259 (rowsOf 259) = true := by decide +kernel
theorem rb_260 : rowsB 260 (rowsOf 260) = true := by decide +kernel
theorem rb_261 : rowsB 261 (rowsOf 261) = true := by decide +kernel
theorem rb_262 : rowsB 262 (rowsOf 262) = true := by decide +kernel
theorem rb_263 : rowsB 263 (rowsOf 263) = true := by decide +kernel
theorem rb_264 : rowsB 264 (rowsOf 264) = true := by decide +kernel
theorem rb_265 : rowsB 265 (rowsOf 265) = true := by decide +kernel
theorem rb_266 : rowsB 266 (rowsOf 266) = true := by decide +kernel
theorem rb_267 : rowsB 267 (rowsOf 267) = true := by decide +kernel
theorem rb_268 : rowsB 268 (rowsOf 268) = true := by decide +kernel
theorem rb_269 : rowsB 269 (rowsOf 269) = true := by decide +kernel
theorem rb_270 : rowsB 270 (rowsOf 270) = true := by decide +kernel
theorem rb_271 : rowsB 271 (rowsOf 271) = true := by decide +kernel
theorem rb_272 : rowsB 272 (rowsOf 272) = true := by decide +kernel
