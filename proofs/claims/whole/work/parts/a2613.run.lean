/-! THE TABLES ARE RIGHT, 8: the checks run (written by program). -/
theorem rb_180 : rowsB 180 (rowsOf 180) = true := by decide +kernel
theorem rb_181 : rowsB 181 (rowsOf 181) = true := by decide +kernel
theorem rb_182 : rowsB 182 (rowsOf 182) = true := by decide +kernel
theorem rb_183 : rowsB 183 (rowsOf 183) = true := by decide +kernel
theorem rb_184 : rowsB 184 (rowsOf 184) = true := by decide +kernel
theorem rb_185 : rowsB 185 (rowsOf 185) = true := by decide +kernel
theorem rb_186 : rowsB 186 (rowsOf 186) = true := by decide +kernel
theorem rb_187 : rowsB 187 (rowsOf 187) = true := by decide +kernel
theorem rb_188 : rowsB 188 (rowsOf 188) = true := by decide +kernel
theorem rb_189 : rowsB 189 (rowsOf 189) = true := by decide +kernel
theorem rb_190 : rowsB 190 (rowsOf 190) = true := by decide +kernel
theorem rb_191 : rowsB 191 (rowsOf 191) = true := by decide +kernel
theorem rb_192 : rowsB 192 (rowsOf 192) = true := by decide +kernel
theorem rb_193 : rowsB 193 (rowsOf 193) = true := by decide +kernel
theorem rb_194 : rowsB 194 (rowsOf 194) = true := by decide +kernel
theorem rb_195 : rowsB 195 (rowsOf 195) = true := by decide +kernel
theorem rb_196 : rowsB 196 (rowsOf 196) = true := by decide +kernel
theorem rb_197 : rowsB 197 (rowsOf 197) = true := by decide +kernel
theorem rb_198 : rowsB 198 (rowsOf 198) = true := by decide +kernel
theorem rb_199 : rowsB 199 (rowsOf 199) = true := by decide +kernel
theorem rb_200 : rowsB 200 (rowsOf 200) = true := by decide +kernel
theorem rb_201 : rowsB 201 (rowsOf 201) = true := by decide +kernel
theorem rb_202 : rowsB 202 (rowsOf 202) = true := by decide +kernel
theorem rb_203 : rowsB 203 (rowsOf 203) = true := by decide +kernel
theorem rb_204 : rowsB 204 (rowsOf 204) = true := by decide +kernel
theorem rb_205 : rowsB 205 (rowsOf 205) = true := by decide +kernel
theorem rp_206_0 : rowsB 206 (((rowsOf 206).drop 0).take 5) = true := by decide +kernel
theorem rp_206_5 : rowsB 206 (((rowsOf 206).drop 5).take 3) = true := by decide +kernel
theorem rp_206_e : rowsB 206 ((rowsOf 206).drop 8) = true := by decide +kernel
theorem rb_206 : rowsB 206 (rowsOf 206) = true := rows_drop 0 5 rp_206_0 (rows_drop 5 3 rp_206_5 rp_206_e)
theorem rb_207 : rowsB 207 (rowsOf 207) = true := by decide +kernel
theorem rb_208 : rowsB 208 (rowsOf 208) = true := by decide +kernel
theorem rb_209 : rowsB 209 (rowsOf 209) = true := by decide +kernel
theorem rb_210 : rowsB 210 (rowsOf 210) = true := by decide +kernel
theorem rb_211 : rowsB 211 (rowsOf 211) = true := by decide +kernel
theorem rb_212 : rowsB 212 (rowsOf 212) = true := by decide +kernel
theorem rb_213 : rowsB 213 (rowsOf 213) = true := by decide +kernel
theorem rb_214 : rowsB 214 (rowsOf 214) = true := by decide +kernel
theorem rb_215 : rowsB 215 (rowsOf 215) = true := by decide +kernel
theorem rb_216 : rowsB 216 (rowsOf 216) = true := by decide +kernel
theorem rb_217 : rowsB 217 (rowsOf 217) = true := by decide +kernel
theorem rb_218 : rowsB 218 (rowsOf 218) = true := by decide +kernel
theorem rb_219 : rowsB 219 (rowsOf 219) = true := by decide +kernel
theorem rb_220 : rowsB 220 (rowsOf 220) = true := by decide +kernel
theorem rb_221 : rowsB 221 (rowsOf 221) = true := by decide +kernel
theorem rb_222 : rowsB 222 (rowsOf 222) = true := by decide +kernel
theorem rb_223 : rowsB 223 (rowsOf 223) = true := by decide +kernel
theorem rb_224 : rowsB 224 (rowsOf 224) = true := by decide +kernel
theorem rb_225 : rowsB 225 (rowsOf 225) = true := by decide +kernel
theorem rb_226 : rowsB 226 (rowsOf 226) = true := by decide +kernel
theorem rb_227 : rowsB 227 (rowsOf 227) = true := by decide +kernel
theorem rb_228 : rowsB 228 (rowsOf 228) = true := by decide +kernel
theorem rp_229_0 : rowsB 229 (((rowsOf 229).drop 0).take 5) = true := by decide +kernel
theorem rp_229_5 : rowsB 229 (((rowsOf 229).drop 5).take 4) = true := by decide +kernel
theorem rp_229_9 : rowsB 229 (((rowsOf 229).drop 9).take 3) = true := by decide +kernel
theorem rp_229_12 : rowsB 229 (((rowsOf 229).drop 12).take 2) = true := by decide +kernel
theorem rp_229_e : rowsB 229 ((rowsOf 229).drop 14) = true := by decide +kernel
theorem rb_229 : rowsB 229 (rowsOf 229) = true := rows_drop 0 5 rp_229_0 (rows_drop 5 4 rp_229_5 (rows_drop 9 3 rp_229_9 (rows_drop 12 2 rp_229_12 rp_229_e)))
theorem rb_230 : rowsB 230 (rowsOf 230) = true := by decide +kernel
theorem rb_231 : rowsB 231 (rowsOf 231) = true := by decide +kernel
