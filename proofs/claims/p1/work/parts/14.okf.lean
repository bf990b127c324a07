section
theorem ok_300 : okD mCl mDf mG mAr mSx 65 mt m_300 := chkD_ok (q := q_300) (ps := p_300) (by decide +kernel)
theorem ok_301 : okD mCl mDf mG mAr mSx 65 mt m_301 := chkD_ok (q := q_301) (ps := p_301) (by decide +kernel)
theorem ok_302 : okD mCl mDf mG mAr mSx 65 mt m_302 := chkD_ok (q := q_302) (ps := p_302) (by decide +kernel)
theorem ok_303 : okD mCl mDf mG mAr mSx 65 mt m_303 := chkD_ok (q := q_303) (ps := p_303) (by decide +kernel)
theorem ok_304 : okD mCl mDf mG mAr mSx 65 mt m_304 := chkD_ok (q := q_304) (ps := p_304) (by decide +kernel)
theorem ok_305 : okD mCl mDf mG mAr mSx 65 mt m_305 := chkD_ok (q := q_305) (ps := p_305) (by decide +kernel)
theorem ok_306 : okD mCl mDf mG mAr mSx 65 mt m_306 := chkD_ok (q := q_306) (ps := p_306) (by decide +kernel)
theorem ok_307 : okD mCl mDf mG mAr mSx 65 mt m_307 := chkD_ok (q := q_307) (ps := p_307) (by decide +kernel)
theorem ok_308 : okD mCl mDf mG mAr mSx 65 mt m_308 := chkD_ok (q := q_308) (ps := p_308) (by decide +kernel)
theorem ok_309 : okD mCl mDf mG mAr mSx 65 mt m_309 := chkD_ok (q := q_309) (ps := p_309) (by decide +kernel)
theorem ok_310 : okD mCl mDf mG mAr mSx 65 mt m_310 := chkD_ok (q := q_310) (ps := p_310) (by decide +kernel)
theorem ok_311 : okD mCl mDf mG mAr mSx 65 mt m_311 := chkD_ok (q := q_311) (ps := p_311) (by decide +kernel)
theorem ok_312 : okD mCl mDf mG mAr mSx 65 mt m_312 := chkD_ok (q := q_312) (ps := p_312) (by decide +kernel)
theorem ok_313 : okD mCl mDf mG mAr mSx 65 mt m_313 := chkD_ok (q := q_313) (ps := p_313) (by decide +kernel)
theorem ok_314 : okD mCl mDf mG mAr mSx 65 mt m_314 := chkD_ok (q := q_314) (ps := p_314) (by decide +kernel)
theorem ok_315 : okD mCl mDf mG mAr mSx 65 mt m_315 := chkD_ok (q := q_315) (ps := p_315) (by decide +kernel)
theorem ok_316 : okD mCl mDf mG mAr mSx 65 mt m_316 := chkD_ok (q := q_316) (ps := p_316) (by decide +kernel)
theorem ok_317 : okD mCl mDf mG mAr mSx 65 mt m_317 := chkD_ok (q := q_317) (ps := p_317) (by decide +kernel)
theorem ok_318 : okD mCl mDf mG mAr mSx 65 mt m_318 := chkD_ok (q := q_318) (ps := p_318) (by decide +kernel)
theorem ok_319 : okD mCl mDf mG mAr mSx 65 mt m_319 := chkD_ok (q := q_319) (ps := p_319) (by decide +kernel)
theorem ok_320 : okD mCl mDf mG mAr mSx 65 mt m_320 := chkD_ok (q := q_320) (ps := p_320) (by decide +kernel)
theorem ok_321 : okD mCl mDf mG mAr mSx 65 mt m_321 := chkD_ok (q := q_321) (ps := p_321) (by decide +kernel)
theorem ok_322 : okD mCl mDf mG mAr mSx 65 mt m_322 := chkD_ok (q := q_322) (ps := p_322) (by decide +kernel)
theorem ok_323 : okD mCl mDf mG mAr mSx 65 mt m_323 := chkD_ok (q := q_323) (ps := p_323) (by decide +kernel)
theorem ok_324 : okD mCl mDf mG mAr mSx 65 mt m_324 := chkD_ok (q := q_324) (ps := p_324) (by decide +kernel)
theorem ok_325 : okD mCl mDf mG mAr mSx 65 mt m_325 := chkD_ok (q := q_325) (ps := p_325) (by decide +kernel)
theorem ok_326 : okD mCl mDf mG mAr mSx 65 mt m_326 := chkD_ok (q := q_326) (ps := p_326) (by decide +kernel)
theorem ok_327 : okD mCl mDf mG mAr mSx 65 mt m_327 := chkD_ok (q := q_327) (ps := p_327) (by decide +kernel)
theorem ok_328 : okD mCl mDf mG mAr mSx 65 mt m_328 := chkD_ok (q := q_328) (ps := p_328) (by decide +kernel)
theorem ok_329 : okD mCl mDf mG mAr mSx 65 mt m_329 := chkD_ok (q := q_329) (ps := p_329) (by decide +kernel)
theorem ok_330 : okD mCl mDf mG mAr mSx 65 mt m_330 := chkD_ok (q := q_330) (ps := p_330) (by decide +kernel)
theorem ok_331 : okD mCl mDf mG mAr mSx 65 mt m_331 := chkD_ok (q := q_331) (ps := p_331) (by decide +kernel)
theorem ok_332 : okD mCl mDf mG mAr mSx 65 mt m_332 := chkD_ok (q := q_332) (ps := p_332) (by decide +kernel)
theorem ok_law0 : ∀ r ∈ r_law0, okRow mCl mDf mG mAr mSx 65 mt m_law r := chkRows_ok' (ps := p_law0) (by decide +kernel)
theorem ok_law1 : ∀ r ∈ r_law1, okRow mCl mDf mG mAr mSx 65 mt m_law r := chkRows_ok' (ps := p_law1) (by decide +kernel)
theorem ok_law2 : ∀ r ∈ r_law2, okRow mCl mDf mG mAr mSx 65 mt m_law r := chkRows_ok' (ps := p_law2) (by decide +kernel)
theorem ok_law3 : ∀ r ∈ r_law3, okRow mCl mDf mG mAr mSx 65 mt m_law r := chkRows_ok' (ps := p_law3) (by decide +kernel)
theorem ok_law4 : ∀ r ∈ r_law4, okRow mCl mDf mG mAr mSx 65 mt m_law r := chkRows_ok' (ps := p_law4) (by decide +kernel)
theorem ok_law5 : ∀ r ∈ r_law5, okRow mCl mDf mG mAr mSx 65 mt m_law r := chkRows_ok' (ps := p_law5) (by decide +kernel)
theorem ok_law6 : ∀ r ∈ r_law6, okRow mCl mDf mG mAr mSx 65 mt m_law r := chkRows_ok' (ps := p_law6) (by decide +kernel)
theorem ok_law7 : ∀ r ∈ r_law7, okRow mCl mDf mG mAr mSx 65 mt m_law r := chkRows_ok' (ps := p_law7) (by decide +kernel)
theorem ok_law8 : ∀ r ∈ r_law8, okRow mCl mDf mG mAr mSx 65 mt m_law r := chkRows_ok' (ps := p_law8) (by decide +kernel)
theorem ok_law9 : ∀ r ∈ r_law9, okRow mCl mDf mG mAr mSx 65 mt m_law r := chkRows_ok' (ps := p_law9) (by decide +kernel)
theorem ok_law10 : ∀ r ∈ r_law10, okRow mCl mDf mG mAr mSx 65 mt m_law r := chkRows_ok' (ps := p_law10) (by decide +kernel)
theorem ok_law : ∀ r ∈ drw m_law, okRow mCl mDf mG mAr mSx 65 mt m_law r := by
  show ∀ r ∈ r_law0 ++ (r_law1 ++ (r_law2 ++ (r_law3 ++ (r_law4 ++ (r_law5 ++ (r_law6 ++ (r_law7 ++ (r_law8 ++ (r_law9 ++ (r_law10)))))))))), _
  exact List.forall_mem_append.mpr ⟨ok_law0, List.forall_mem_append.mpr ⟨ok_law1, List.forall_mem_append.mpr ⟨ok_law2, List.forall_mem_append.mpr ⟨ok_law3, List.forall_mem_append.mpr ⟨ok_law4, List.forall_mem_append.mpr ⟨ok_law5, List.forall_mem_append.mpr ⟨ok_law6, List.forall_mem_append.mpr ⟨ok_law7, List.forall_mem_append.mpr ⟨ok_law8, List.forall_mem_append.mpr ⟨ok_law9, ok_law10⟩⟩⟩⟩⟩⟩⟩⟩⟩⟩
theorem ok_all : ∀ (y : Nat) (D : mM), mt y = some D → okD mCl mDf mG mAr mSx 65 mt D := by
  intro y D h
  have h1 : D ∈ mtL := List.mem_of_getElem? h
  revert D
  intro D _ h1
  simp only [mtL, List.mem_cons, List.not_mem_nil, or_false] at h1
  rcases h1 with rfl | rfl | rfl | rfl | rfl | rfl | rfl | rfl | rfl | rfl | rfl | rfl | rfl | rfl | rfl | rfl | rfl | rfl | rfl | rfl | rfl | rfl | rfl | rfl | rfl | rfl | rfl | rfl | rfl | rfl | rfl | rfl | rfl | rfl | rfl | rfl | rfl | rfl | rfl | rfl | rfl | rfl | rfl | rfl | rfl | rfl | rfl | rfl | rfl | rfl | rfl | rfl | rfl | rfl | rfl | rfl | rfl | rfl | rfl | rfl | rfl | rfl | rfl | rfl | rfl | rfl | rfl | rfl | rfl | rfl | rfl | rfl | rfl | rfl | rfl | rfl | rfl | rfl | rfl | rfl | rfl | rfl | rfl | rfl | rfl | rfl | rfl | rfl | rfl | rfl | rfl | rfl | rfl | rfl | rfl | rfl | rfl | rfl | rfl | rfl | rfl | rfl | rfl | rfl | rfl | rfl | rfl | rfl | rfl | rfl | rfl | rfl | rfl | rfl | rfl | rfl | rfl | rfl | rfl | rfl | rfl | rfl | rfl | rfl | rfl | rfl | rfl | rfl | rfl | rfl | rfl | rfl | rfl | rfl | rfl | rfl | rfl | rfl | rfl | rfl | rfl | rfl | rfl | rfl | rfl | rfl | rfl | rfl | rfl | rfl | rfl | rfl | rfl | rfl | rfl | rfl | rfl | rfl | rfl | rfl | rfl | rfl | rfl | rfl | rfl | rfl | rfl | rfl | rfl | rfl | rfl | rfl | rfl | rfl | rfl | rfl | rfl | rfl | rfl | rfl | rfl | rfl | rfl | rfl | rfl | rfl | rfl | rfl | rfl | rfl | rfl | rfl | rfl | rfl | rfl | rfl | rfl | rfl | rfl | rfl | rfl | rfl | rfl | rfl | rfl | rfl | rfl | rfl | rfl | rfl | rfl | rfl | rfl | rfl | rfl | rfl | rfl | rfl | rfl | rfl | rfl | rfl | rfl | rfl | rfl | rfl | rfl | rfl | rfl | rfl | rfl | rfl | rfl | rfl | rfl | rfl | rfl | rfl | rfl | rfl | rfl | rfl | rfl | rfl | rfl | rfl | rfl | rfl | rfl | rfl | rfl | rfl | rfl | rfl | rfl | rfl | rfl | rfl | rfl | rfl | rfl | rfl | rfl | rfl | rfl | rfl | rfl | rfl | rfl | rfl | rfl | rfl | rfl | rfl | rfl | rfl | rfl | rfl | rfl | rfl | rfl | rfl | rfl | rfl | rfl | rfl | rfl | rfl | rfl | rfl | rfl | rfl | rfl | rfl | rfl | rfl | rfl | rfl | rfl | rfl | rfl | rfl | rfl | rfl | rfl | rfl | rfl | rfl | rfl | rfl | rfl | rfl | rfl | rfl | rfl | rfl | rfl | rfl | rfl | rfl | rfl | rfl | rfl | rfl | rfl | rfl | rfl | rfl | rfl | rfl | rfl | rfl | rfl
  · exact ok_0
  · exact ok_1
  · exact ok_2
  · exact ok_3
  · exact ok_4
  · exact ok_5
  · exact ok_6
  · exact ok_7
  · exact ok_8
  · exact ok_9
  · exact ok_10
  · exact ok_11
  · exact ok_12
  · exact ok_13
  · exact ok_14
  · exact ok_15
  · exact ok_16
  · exact ok_17
  · exact ok_18
  · exact ok_19
  · exact ok_20
  · exact ok_21
  · exact ok_22
  · exact ok_23
  · exact ok_24
  · exact ok_25
  · exact ok_26
  · exact ok_27
  · exact ok_28
  · exact ok_29
  · exact ok_30
  · exact ok_31
  · exact ok_32
  · exact ok_33
  · exact ok_34
  · exact ok_35
  · exact ok_36
  · exact ok_37
  · exact ok_38
  · exact ok_39
  · exact ok_40
  · exact ok_41
  · exact ok_42
  · exact ok_43
  · exact ok_44
  · exact ok_45
  · exact ok_46
  · exact ok_47
  · exact ok_48
  · exact ok_49
  · exact ok_50
  · exact ok_51
  · exact ok_52
  · exact ok_53
  · exact ok_54
  · exact ok_55
  · exact ok_56
  · exact ok_57
  · exact ok_58
  · exact ok_59
  · exact ok_60
  · exact ok_61
  · exact ok_62
  · exact ok_63
  · exact ok_64
  · exact ok_65
  · exact ok_66
  · exact ok_67
  · exact ok_68
  · exact ok_69
  · exact ok_70
  · exact ok_71
  · exact ok_72
  · exact ok_73
  · exact ok_74
  · exact ok_75
  · exact ok_76
  · exact ok_77
  · exact ok_78
  · exact ok_79
  · exact ok_80
  · exact ok_81
  · exact ok_82
  · exact ok_83
  · exact ok_84
  · exact ok_85
  · exact ok_86
  · exact ok_87
  · exact ok_88
  · exact ok_89
  · exact ok_90
  · exact ok_91
  · exact ok_92
  · exact ok_93
  · exact ok_94
  · exact ok_95
  · exact ok_96
  · exact ok_97
  · exact ok_98
  · exact ok_99
  · exact ok_100
  · exact ok_101
  · exact ok_102
  · exact ok_103
  · exact ok_104
  · exact ok_105
  · exact ok_106
  · exact ok_107
  · exact ok_108
  · exact ok_109
  · exact ok_110
  · exact ok_111
  · exact ok_112
  · exact ok_113
  · exact ok_114
  · exact ok_115
  · exact ok_116
  · exact ok_117
  · exact ok_118
  · exact ok_119
  · exact ok_120
  · exact ok_121
  · exact ok_122
  · exact ok_123
  · exact ok_124
  · exact ok_125
  · exact ok_126
  · exact ok_127
  · exact ok_128
  · exact ok_129
  · exact ok_130
  · exact ok_131
  · exact ok_132
  · exact ok_133
  · exact ok_134
  · exact ok_135
  · exact ok_136
  · exact ok_137
  · exact ok_138
  · exact ok_139
  · exact ok_140
  · exact ok_141
  · exact ok_142
  · exact ok_143
  · exact ok_144
  · exact ok_145
  · exact ok_146
  · exact ok_147
  · exact ok_148
  · exact ok_149
  · exact ok_150
  · exact ok_151
  · exact ok_152
  · exact ok_153
  · exact ok_154
  · exact ok_155
  · exact ok_156
  · exact ok_157
  · exact ok_158
  · exact ok_159
  · exact ok_160
  · exact ok_161
  · exact ok_162
  · exact ok_163
  · exact ok_164
  · exact ok_165
  · exact ok_166
  · exact ok_167
  · exact ok_168
  · exact ok_169
  · exact ok_170
  · exact ok_171
  · exact ok_172
  · exact ok_173
  · exact ok_174
  · exact ok_175
  · exact ok_176
  · exact ok_177
  · exact ok_178
  · exact ok_179
  · exact ok_180
  · exact ok_181
  · exact ok_182
  · exact ok_183
  · exact ok_184
  · exact ok_185
  · exact ok_186
  · exact ok_187
  · exact ok_188
  · exact ok_189
  · exact ok_190
  · exact ok_191
  · exact ok_192
  · exact ok_193
  · exact ok_194
  · exact ok_195
  · exact ok_196
  · exact ok_197
  · exact ok_198
  · exact ok_199
  · exact ok_200
  · exact ok_201
  · exact ok_202
  · exact ok_203
  · exact ok_204
  · exact ok_205
  · exact ok_206
  · exact ok_207
  · exact ok_208
  · exact ok_209
  · exact ok_210
  · exact ok_211
  · exact ok_212
  · exact ok_213
  · exact ok_214
  · exact ok_215
  · exact ok_216
  · exact ok_217
  · exact ok_218
  · exact ok_219
  · exact ok_220
  · exact ok_221
  · exact ok_222
  · exact ok_223
  · exact ok_224
  · exact ok_225
  · exact ok_226
  · exact ok_227
  · exact ok_228
  · exact ok_229
  · exact ok_230
  · exact ok_231
  · exact ok_232
  · exact ok_233
  · exact ok_234
  · exact ok_235
  · exact ok_236
  · exact ok_237
  · exact ok_238
  · exact ok_239
  · exact ok_240
  · exact ok_241
  · exact ok_242
  · exact ok_243
  · exact ok_244
  · exact ok_245
  · exact ok_246
  · exact ok_247
  · exact ok_248
  · exact ok_249
  · exact ok_250
  · exact ok_251
  · exact ok_252
  · exact ok_253
  · exact ok_254
  · exact ok_255
  · exact ok_256
  · exact ok_257
  · exact ok_258
  · exact ok_259
  · exact ok_260
  · exact ok_261
  · exact ok_262
  · exact ok_263
  · exact ok_264
  · exact ok_265
  · exact ok_266
  · exact ok_267
  · exact ok_268
  · exact ok_269
  · exact ok_270
  · exact ok_271
  · exact ok_272
  · exact ok_273
  · exact ok_274
  · exact ok_275
  · exact ok_276
  · exact ok_277
  · exact ok_278
  · exact ok_279
  · exact ok_280
  · exact ok_281
  · exact ok_282
  · exact ok_283
  · exact ok_284
  · exact ok_285
  · exact ok_286
  · exact ok_287
  · exact ok_288
  · exact ok_289
  · exact ok_290
  · exact ok_291
  · exact ok_292
  · exact ok_293
  · exact ok_294
  · exact ok_295
  · exact ok_296
  · exact ok_297
  · exact ok_298
  · exact ok_299
  · exact ok_300
  · exact ok_301
  · exact ok_302
  · exact ok_303
  · exact ok_304
  · exact ok_305
  · exact ok_306
  · exact ok_307
  · exact ok_308
  · exact ok_309
  · exact ok_310
  · exact ok_311
  · exact ok_312
  · exact ok_313
  · exact ok_314
  · exact ok_315
  · exact ok_316
  · exact ok_317
  · exact ok_318
  · exact ok_319
  · exact ok_320
  · exact ok_321
  · exact ok_322
  · exact ok_323
  · exact ok_324
  · exact ok_325
  · exact ok_326
  · exact ok_327
  · exact ok_328
  · exact ok_329
  · exact ok_330
  · exact ok_331
  · exact ok_332
end
