/-! THE TABLES ARE RIGHT, 21: all of them. -/
theorem grp_0 : GrpB 0 := grp_by fun j h h2 => by
  match j, h, h2 with
  | 0, _, _ => exact rb_0
  | 1, _, _ => exact rb_1
  | 2, _, _ => exact rb_2
  | 3, _, _ => exact rb_3
  | 4, _, _ => exact rb_4
  | 5, _, _ => exact rb_5
  | 6, _, _ => exact rb_6
  | 7, _, _ => exact rb_7
  | 8, _, _ => exact rb_8
  | 9, _, _ => exact rb_9
  | 10, _, _ => exact rb_10
  | 11, _, _ => exact rb_11
  | 12, _, _ => exact rb_12
  | 13, _, _ => exact rb_13
  | 14, _, _ => exact rb_14
  | 15, _, _ => exact rb_15
  | j + 16, h, h2 => exact absurd h (by omega)
theorem grp_1 : GrpB 1 := grp_by fun j h h2 => by
  match j, h, h2 with
  | 0, _, _ => exact rb_16
  | 1, _, _ => exact rb_17
  | 2, _, _ => exact rb_18
  | 3, _, _ => exact rb_19
  | 4, _, _ => exact rb_20
  | 5, _, _ => exact rb_21
  | 6, _, _ => exact rb_22
  | 7, _, _ => exact rb_23
  | 8, _, _ => exact rb_24
  | 9, _, _ => exact rb_25
  | 10, _, _ => exact rb_26
  | 11, _, _ => exact rb_27
  | 12, _, _ => exact rb_28
  | 13, _, _ => exact rb_29
  | 14, _, _ => exact rb_30
  | 15, _, _ => exact rb_31
  | j + 16, h, h2 => exact absurd h (by omega)
theorem grp_2 : GrpB 2 := grp_by fun j h h2 => by
  match j, h, h2 with
  | 0, _, _ => exact rb_32
  | 1, _, _ => exact rb_33
  | 2, _, _ => exact rb_34
  | 3, _, _ => exact rb_35
  | 4, _, _ => exact rb_36
  | 5, _, _ => exact rb_37
  | 6, _, _ => exact rb_38
  | 7, _, _ => exact rb_39
  | 8, _, _ => exact rb_40
  | 9, _, _ => exact rb_41
  | 10, _, _ => exact rb_42
  | 11, _, _ => exact rb_43
  | 12, _, _ => exact rb_44
  | 13, _, _ => exact rb_45
  | 14, _, _ => exact rb_46
  | 15, _, _ => exact rb_47
  | j + 16, h, h2 => exact absurd h (by omega)
theorem grp_3 : GrpB 3 := grp_by fun j h h2 => by
  match j, h, h2 with
  | 0, _, _ => exact rb_48
  | 1, _, _ => exact rb_49
  | 2, _, _ => exact rb_50
  | 3, _, _ => exact rb_51
  | 4, _, _ => exact rb_52
  | 5, _, _ => exact rb_53
  | 6, _, _ => exact rb_54
  | 7, _, _ => exact rb_55
  | 8, _, _ => exact rb_56
  | 9, _, _ => exact rb_57
  | 10, _, _ => exact rb_58
  | 11, _, _ => exact rb_59
  | 12, _, _ => exact rb_60
  | 13, _, _ => exact rb_61
  | 14, _, _ => exact rb_62
  | 15, _, _ => exact rb_63
  | j + 16, h, h2 => exact absurd h (by omega)
theorem grp_4 : GrpB 4 := grp_by fun j h h2 => by
  match j, h, h2 with
  | 0, _, _ => exact rb_64
  | 1, _, _ => exact rb_65
  | 2, _, _ => exact rb_66
  | 3, _, _ => exact rb_67
  | 4, _, _ => exact rb_68
  | 5, _, _ => exact rb_69
  | 6, _, _ => exact rb_70
  | 7, _, _ => exact rb_71
  | 8, _, _ => exact rb_72
  | 9, _, _ => exact rb_73
  | 10, _, _ => exact rb_74
  | 11, _, _ => exact rb_75
  | 12, _, _ => exact rb_76
  | 13, _, _ => exact rb_77
  | 14, _, _ => exact rb_78
  | 15, _, _ => exact rb_79
  | j + 16, h, h2 => exact absurd h (by omega)
theorem grp_5 : GrpB 5 := grp_by fun j h h2 => by
  match j, h, h2 with
  | 0, _, _ => exact rb_80
  | 1, _, _ => exact rb_81
  | 2, _, _ => exact rb_82
  | 3, _, _ => exact rb_83
  | 4, _, _ => exact rb_84
  | 5, _, _ => exact rb_85
  | 6, _, _ => exact rb_86
  | 7, _, _ => exact rb_87
  | 8, _, _ => exact rb_88
  | 9, _, _ => exact rb_89
  | 10, _, _ => exact rb_90
  | 11, _, _ => exact rb_91
  | 12, _, _ => exact rb_92
  | 13, _, _ => exact rb_93
  | 14, _, _ => exact rb_94
  | 15, _, _ => exact rb_95
  | j + 16, h, h2 => exact absurd h (by omega)
theorem grp_6 : GrpB 6 := grp_by fun j h h2 => by
  match j, h, h2 with
  | 0, _, _ => exact rb_96
  | 1, _, _ => exact rb_97
  | 2, _, _ => exact rb_98
  | 3, _, _ => exact rb_99
  | 4, _, _ => exact rb_100
  | 5, _, _ => exact rb_101
  | 6, _, _ => exact rb_102
  | 7, _, _ => exact rb_103
  | 8, _, _ => exact rb_104
  | 9, _, _ => exact rb_105
  | 10, _, _ => exact rb_106
  | 11, _, _ => exact rb_107
  | 12, _, _ => exact rb_108
  | 13, _, _ => exact rb_109
  | 14, _, _ => exact rb_110
  | 15, _, _ => exact rb_111
  | j + 16, h, h2 => exact absurd h (by omega)
theorem grp_7 : GrpB 7 := grp_by fun j h h2 => by
  match j, h, h2 with
  | 0, _, _ => exact rb_112
  | 1, _, _ => exact rb_113
  | 2, _, _ => exact rb_114
  | 3, _, _ => exact rb_115
  | 4, _, _ => exact rb_116
  | 5, _, _ => exact rb_117
  | 6, _, _ => exact rb_118
  | 7, _, _ => exact rb_119
  | 8, _, _ => exact rb_120
  | 9, _, _ => exact rb_121
  | 10, _, _ => exact rb_122
  | 11, _, _ => exact rb_123
  | 12, _, _ => exact rb_124
  | 13, _, _ => exact rb_125
  | 14, _, _ => exact rb_126
  | 15, _, _ => exact rb_127
  | j + 16, h, h2 => exact absurd h (by omega)
theorem grp_8 : GrpB 8 := grp_by fun j h h2 => by
  match j, h, h2 with
  | 0, _, _ => exact rb_128
  | 1, _, _ => exact rb_129
  | 2, _, _ => exact rb_130
  | 3, _, _ => exact rb_131
  | 4, _, _ => exact rb_132
  | 5, _, _ => exact rb_133
  | 6, _, _ => exact rb_134
  | 7, _, _ => exact rb_135
  | 8, _, _ => exact rb_136
  | 9, _, _ => exact rb_137
  | 10, _, _ => exact rb_138
  | 11, _, _ => exact rb_139
  | 12, _, _ => exact rb_140
  | 13, _, _ => exact rb_141
  | 14, _, _ => exact rb_142
  | 15, _, _ => exact rb_143
  | j + 16, h, h2 => exact absurd h (by omega)
theorem grp_9 : GrpB 9 := grp_by fun j h h2 => by
  match j, h, h2 with
  | 0, _, _ => exact rb_144
  | 1, _, _ => exact rb_145
  | 2, _, _ => exact rb_146
  | 3, _, _ => exact rb_147
  | 4, _, _ => exact rb_148
  | 5, _, _ => exact rb_149
  | 6, _, _ => exact rb_150
  | 7, _, _ => exact rb_151
  | 8, _, _ => exact rb_152
  | 9, _, _ => exact rb_153
  | 10, _, _ => exact rb_154
  | 11, _, _ => exact rb_155
  | 12, _, _ => exact rb_156
  | 13, _, _ => exact rb_157
  | 14, _, _ => exact rb_158
  | 15, _, _ => exact rb_159
  | j + 16, h, h2 => exact absurd h (by omega)
theorem grp_10 : GrpB 10 := grp_by fun j h h2 => by
  match j, h, h2 with
  | 0, _, _ => exact rb_160
  | 1, _, _ => exact rb_161
  | 2, _, _ => exact rb_162
  | 3, _, _ => exact rb_163
  | 4, _, _ => exact rb_164
  | 5, _, _ => exact rb_165
  | 6, _, _ => exact rb_166
  | 7, _, _ => exact rb_167
  | 8, _, _ => exact rb_168
  | 9, _, _ => exact rb_169
  | 10, _, _ => exact rb_170
  | 11, _, _ => exact rb_171
  | 12, _, _ => exact rb_172
  | 13, _, _ => exact rb_173
  | 14, _, _ => exact rb_174
  | 15, _, _ => exact rb_175
  | j + 16, h, h2 => exact absurd h (by omega)
theorem grp_11 : GrpB 11 := grp_by fun j h h2 => by
  match j, h, h2 with
  | 0, _, _ => exact rb_176
  | 1, _, _ => exact rb_177
  | 2, _, _ => exact rb_178
  | 3, _, _ => exact rb_179
  | 4, _, _ => exact rb_180
  | 5, _, _ => exact rb_181
  | 6, _, _ => exact rb_182
  | 7, _, _ => exact rb_183
  | 8, _, _ => exact rb_184
  | 9, _, _ => exact rb_185
  | 10, _, _ => exact rb_186
  | 11, _, _ => exact rb_187
  | 12, _, _ => exact rb_188
  | 13, _, _ => exact rb_189
  | 14, _, _ => exact rb_190
  | 15, _, _ => exact rb_191
  | j + 16, h, h2 => exact absurd h (by omega)
theorem grp_12 : GrpB 12 := grp_by fun j h h2 => by
  match j, h, h2 with
  | 0, _, _ => exact rb_192
  | 1, _, _ => exact rb_193
  | 2, _, _ => exact rb_194
  | 3, _, _ => exact rb_195
  | 4, _, _ => exact rb_196
  | 5, _, _ => exact rb_197
  | 6, _, _ => exact rb_198
  | 7, _, _ => exact rb_199
  | 8, _, _ => exact rb_200
  | 9, _, _ => exact rb_201
  | 10, _, _ => exact rb_202
  | 11, _, _ => exact rb_203
  | 12, _, _ => exact rb_204
  | 13, _, _ => exact rb_205
  | 14, _, _ => exact rb_206
  | 15, _, _ => exact rb_207
  | j + 16, h, h2 => exact absurd h (by omega)
theorem grp_13 : GrpB 13 := grp_by fun j h h2 => by
  match j, h, h2 with
  | 0, _, _ => exact rb_208
  | 1, _, _ => exact rb_209
  | 2, _, _ => exact rb_210
  | 3, _, _ => exact rb_211
  | 4, _, _ => exact rb_212
  | 5, _, _ => exact rb_213
  | 6, _, _ => exact rb_214
  | 7, _, _ => exact rb_215
  | 8, _, _ => exact rb_216
  | 9, _, _ => exact rb_217
  | 10, _, _ => exact rb_218
  | 11, _, _ => exact rb_219
  | 12, _, _ => exact rb_220
  | 13, _, _ => exact rb_221
  | 14, _, _ => exact rb_222
  | 15, _, _ => exact rb_223
  | j + 16, h, h2 => exact absurd h (by omega)
theorem grp_14 : GrpB 14 := grp_by fun j h h2 => by
  match j, h, h2 with
  | 0, _, _ => exact rb_224
  | 1, _, _ => exact rb_225
  | 2, _, _ => exact rb_226
  | 3, _, _ => exact rb_227
  | 4, _, _ => exact rb_228
  | 5, _, _ => exact rb_229
  | 6, _, _ => exact rb_230
  | 7, _, _ => exact rb_231
  | 8, _, _ => exact rb_232
  | 9, _, _ => exact rb_233
  | 10, _, _ => exact rb_234
  | 11, _, _ => exact rb_235
  | 12, _, _ => exact rb_236
  | 13, _, _ => exact rb_237
  | 14, _, _ => exact rb_238
  | 15, _, _ => exact rb_239
  | j + 16, h, h2 => exact absurd h (by omega)
theorem grp_15 : GrpB 15 := grp_by fun j h h2 => by
  match j, h, h2 with
  | 0, _, _ => exact rb_240
  | 1, _, _ => exact rb_241
  | 2, _, _ => exact rb_242
  | 3, _, _ => exact rb_243
  | 4, _, _ => exact rb_244
  | 5, _, _ => exact rb_245
  | 6, _, _ => exact rb_246
  | 7, _, _ => exact rb_247
  | 8, _, _ => exact rb_248
  | 9, _, _ => exact rb_249
  | 10, _, _ => exact rb_250
  | 11, _, _ => exact rb_251
  | 12, _, _ => exact rb_252
  | 13, _, _ => exact rb_253
  | 14, _, _ => exact rb_254
  | 15, _, _ => exact rb_255
  | j + 16, h, h2 => exact absurd h (by omega)
theorem grp_16 : GrpB 16 := grp_by fun j h h2 => by
  match j, h, h2 with
  | 0, _, _ => exact rb_256
  | 1, _, _ => exact rb_257
  | 2, _, _ => exact rb_258
  | 3, _, _ => exact rb_259
  | 4, _, _ => exact rb_260
  | 5, _, _ => exact rb_261
  | 6, _, _ => exact rb_262
  | 7, _, _ => exact rb_263
  | 8, _, _ => exact rb_264
  | 9, _, _ => exact rb_265
  | 10, _, _ => exact rb_266
  | 11, _, _ => exact rb_267
  | 12, _, _ => exact rb_268
  | 13, _, _ => exact rb_269
  | 14, _, _ => exact rb_270
  | 15, _, _ => exact rb_271
  | j + 16, h, h2 => exact absurd h (by omega)
theorem grp_17 : GrpB 17 := grp_by fun j h h2 => by
  match j, h, h2 with
  | 0, _, _ => exact rb_272
  | 1, _, _ => exact rb_273
  | 2, _, _ => exact rb_274
  | 3, _, _ => exact rb_275
  | 4, _, _ => exact rb_276
  | 5, _, _ => exact rb_277
  | 6, _, _ => exact rb_278
  | 7, _, _ => exact rb_279
  | 8, _, _ => exact rb_280
  | 9, _, _ => exact rb_281
  | 10, _, _ => exact rb_282
  | 11, _, _ => exact rb_283
  | 12, _, _ => exact rb_284
  | 13, _, _ => exact rb_285
  | 14, _, _ => exact rb_286
  | 15, _, _ => exact rb_287
  | j + 16, h, h2 => exact absurd h (by omega)
theorem grp_18 : GrpB 18 := grp_by fun j h h2 => by
  match j, h, h2 with
  | 0, _, _ => exact rb_288
  | 1, _, _ => exact rb_289
  | 2, _, _ => exact rb_290
  | 3, _, _ => exact rb_291
  | 4, _, _ => exact rb_292
  | 5, _, _ => exact rb_293
  | 6, _, _ => exact rb_294
  | 7, _, _ => exact rb_295
  | 8, _, _ => exact rb_296
  | 9, _, _ => exact rb_297
  | 10, _, _ => exact rb_298
  | 11, _, _ => exact rb_299
  | 12, _, _ => exact rb_300
  | 13, _, _ => exact rb_301
  | 14, _, _ => exact rb_302
  | 15, _, _ => exact rb_303
  | j + 16, h, h2 => exact absurd h (by omega)
theorem grp_19 : GrpB 19 := grp_by fun j h h2 => by
  match j, h, h2 with
  | 0, _, _ => exact rb_304
  | 1, _, _ => exact rb_305
  | 2, _, _ => exact rb_306
  | 3, _, _ => exact rb_307
  | 4, _, _ => exact rb_308
  | 5, _, _ => exact rb_309
  | 6, _, _ => exact rb_310
  | 7, _, _ => exact rb_311
  | 8, _, _ => exact rb_312
  | 9, _, _ => exact rb_313
  | 10, _, _ => exact rb_314
  | 11, _, _ => exact rb_315
  | 12, _, _ => exact rb_316
  | 13, _, _ => exact rb_317
  | 14, _, _ => exact rb_318
  | 15, _, _ => exact rb_319
  | j + 16, h, h2 => exact absurd h (by omega)
theorem grp_20 : GrpB 20 := grp_by fun j h h2 => by
  match j, h, h2 with
  | 0, _, _ => exact rb_320
  | 1, _, _ => exact rb_321
  | 2, _, _ => exact rb_322
  | 3, _, _ => exact rb_323
  | 4, _, _ => exact rb_324
  | 5, _, _ => exact rb_325
  | 6, _, _ => exact rb_326
  | 7, _, _ => exact rb_327
  | 8, _, _ => exact rb_328
  | 9, _, _ => exact rb_329
  | 10, _, _ => exact rb_330
  | 11, _, _ => exact rb_331
  | 12, _, _ => exact rb_332
  | 13, _, _ => exact rb_333
  | 14, _, _ => exact rb_334
  | 15, _, _ => exact rb_335
  | j + 16, h, h2 => exact absurd h (by omega)
theorem grp_21 : GrpB 21 := grp_by fun j h h2 => by
  match j, h, h2 with
  | 0, _, _ => exact rb_336
  | 1, _, _ => exact rb_337
  | 2, _, _ => exact rb_338
  | 3, _, _ => exact rb_339
  | 4, _, _ => exact rb_340
  | 5, _, _ => exact rb_341
  | 6, _, _ => exact rb_342
  | 7, _, _ => exact rb_343
  | 8, _, _ => exact rb_344
  | 9, _, _ => exact rb_345
  | 10, _, _ => exact rb_346
  | 11, _, _ => exact rb_347
  | 12, _, _ => exact rb_348
  | 13, _, _ => exact rb_349
  | 14, _, _ => exact rb_350
  | 15, _, _ => exact rb_351
  | j + 16, h, h2 => exact absurd h (by omega)
theorem grp_22 : GrpB 22 := grp_by fun j h h2 => by
  match j, h, h2 with
  | 0, _, _ => exact rb_352
  | 1, _, _ => exact rb_353
  | 2, _, _ => exact rb_354
  | 3, _, _ => exact rb_355
  | 4, _, _ => exact rb_356
  | 5, _, _ => exact rb_357
  | 6, _, _ => exact rb_358
  | 7, _, _ => exact rb_359
  | 8, _, _ => exact rb_360
  | 9, _, _ => exact rb_361
  | 10, _, _ => exact rb_362
  | 11, _, _ => exact rb_363
  | 12, _, _ => exact rb_364
  | 13, _, _ => exact rb_365
  | 14, _, _ => exact rb_366
  | 15, _, _ => exact rb_367
  | j + 16, h, h2 => exact absurd h (by omega)
theorem grp_23 : GrpB 23 := grp_by fun j h h2 => by
  match j, h, h2 with
  | 0, _, _ => exact rb_368
  | 1, _, _ => exact rb_369
  | 2, _, _ => exact rb_370
  | 3, _, _ => exact rb_371
  | 4, _, _ => exact rb_372
  | 5, _, _ => exact rb_373
  | 6, _, _ => exact rb_374
  | j + 7, h, h2 => exact absurd h2 (by omega)
theorem grp_all : ∀ i, i < 24 → GrpB i
  | 0, _ => grp_0
  | 1, _ => grp_1
  | 2, _ => grp_2
  | 3, _ => grp_3
  | 4, _ => grp_4
  | 5, _ => grp_5
  | 6, _ => grp_6
  | 7, _ => grp_7
  | 8, _ => grp_8
  | 9, _ => grp_9
  | 10, _ => grp_10
  | 11, _ => grp_11
  | 12, _ => grp_12
  | 13, _ => grp_13
  | 14, _ => grp_14
  | 15, _ => grp_15
  | 16, _ => grp_16
  | 17, _ => grp_17
  | 18, _ => grp_18
  | 19, _ => grp_19
  | 20, _ => grp_20
  | 21, _ => grp_21
  | 22, _ => grp_22
  | 23, _ => grp_23
  | n + 24, h => absurd h (by omega)
theorem tab_all (mi pc : Nat) (en : Ent) (h : mi < 375) (hp : prgE mi pc = some en) : TabAt mi pc en := tab_of (grp_all (mi / 16) (by omega)) rfl h hp
