/-! THE TABLES ARE RIGHT, 8: the checks run. -/
theorem rb_224 : rowsB 224 (rowsOf 224) = true := by decide +kernel
theorem rb_225 : rowsB 225 (rowsOf 225) = true := by decide +kernel
theorem rb_226 : rowsB 226 (rowsOf 226) = true := by decide +kernel
theorem rb_227 : rowsB 227 (rowsOf 227) = true := by decide +kernel
theorem rb_228 : rowsB 228 (rowsOf 228) = true := by decide +kernel
theorem rb_229 : rowsB 229 (rowsOf 229) = true := by decide +kernel
theorem rb_230 : rowsB 230 (rowsOf 230) = true := by decide +kernel
theorem rb_231 : rowsB 231 (rowsOf 231) = true := by decide +kernel
theorem rb_232 : rowsB 232 (rowsOf 232) = true := by decide +kernel
theorem rb_233 : rowsB 233 (rowsOf 233) = true := by decide +kernel
theorem rb_234 : rowsB 234 (rowsOf 234) = true := by decide +kernel
theorem rb_235 : rowsB 235 (rowsOf 235) = true := by decide +kernel
theorem rb_236 : rowsB 236 (rowsOf 236) = true := by decide +kernel
theorem rb_237 : rowsB 237 (rowsOf 237) = true := by decide +kernel
theorem rb_238 : rowsB 238 (rowsOf 238) = true := by decide +kernel
theorem rb_239 : rowsB 239 (rowsOf 239) = true := by decide +kernel
theorem grp_14 : GrpB 14 := grp_by fun j h _ => by
  match j, h with
  | 0, _ => exact rb_224
  | 1, _ => exact rb_225
  | 2, _ => exact rb_226
  | 3, _ => exact rb_227
  | 4, _ => exact rb_228
  | 5, _ => exact rb_229
  | 6, _ => exact rb_230
  | 7, _ => exact rb_231
  | 8, _ => exact rb_232
  | 9, _ => exact rb_233
  | 10, _ => exact rb_234
  | 11, _ => exact rb_235
  | 12, _ => exact rb_236
  | 13, _ => exact rb_237
  | 14, _ => exact rb_238
  | 15, _ => exact rb_239
  | j + 16, h => exact absurd h (by omega)
