theorem dX9_init_0 : decode cX9_init 0 = .ok (.aload_n 0, 1) := by decide +kernel
theorem dX9_init_1 : decode cX9_init 1 = .ok (.invokespecial 1, 3) := by decide +kernel
theorem dX9_init_4 : decode cX9_init 4 = .ok (.aload_n 0, 1) := by decide +kernel
theorem dX9_init_5 : decode cX9_init 5 = .ok (.bipush 22, 2) := by decide +kernel
theorem dX9_init_7 : decode cX9_init 7 = .ok (.newarray .int, 2) := by decide +kernel
theorem dX9_init_9 : decode cX9_init 9 = .ok (.putfield 7, 3) := by decide +kernel
theorem dX9_init_12 : decode cX9_init 12 = .ok (.aload_n 0, 1) := by decide +kernel
theorem dX9_init_13 : decode cX9_init 13 = .ok (.bipush 22, 2) := by decide +kernel
theorem dX9_init_15 : decode cX9_init 15 = .ok (.newarray .int, 2) := by decide +kernel
theorem dX9_init_17 : decode cX9_init 17 = .ok (.putfield 13, 3) := by decide +kernel
theorem dX9_init_20 : decode cX9_init 20 = .ok (.aload_n 0, 1) := by decide +kernel
theorem dX9_init_21 : decode cX9_init 21 = .ok (.bipush 22, 2) := by decide +kernel
theorem dX9_init_23 : decode cX9_init 23 = .ok (.newarray .int, 2) := by decide +kernel
theorem dX9_init_25 : decode cX9_init 25 = .ok (.putfield 16, 3) := by decide +kernel
theorem dX9_init_28 : decode cX9_init 28 = .ok (.aload_n 0, 1) := by decide +kernel
theorem dX9_init_29 : decode cX9_init 29 = .ok (.bipush 22, 2) := by decide +kernel
theorem dX9_init_31 : decode cX9_init 31 = .ok (.newarray .int, 2) := by decide +kernel
theorem dX9_init_33 : decode cX9_init 33 = .ok (.putfield 19, 3) := by decide +kernel
theorem dX9_init_36 : decode cX9_init 36 = .ok (.aload_n 0, 1) := by decide +kernel
theorem dX9_init_37 : decode cX9_init 37 = .ok (.sipush 440, 3) := by decide +kernel
theorem dX9_init_40 : decode cX9_init 40 = .ok (.newarray .int, 2) := by decide +kernel
theorem dX9_init_42 : decode cX9_init 42 = .ok (.putfield 22, 3) := by decide +kernel
theorem dX9_init_45 : decode cX9_init 45 = .ok (.aload_n 0, 1) := by decide +kernel
theorem dX9_init_46 : decode cX9_init 46 = .ok (.sipush 440, 3) := by decide +kernel
theorem dX9_init_49 : decode cX9_init 49 = .ok (.newarray .int, 2) := by decide +kernel
theorem dX9_init_51 : decode cX9_init 51 = .ok (.putfield 25, 3) := by decide +kernel
theorem dX9_init_54 : decode cX9_init 54 = .ok (.aload_n 0, 1) := by decide +kernel
theorem dX9_init_55 : decode cX9_init 55 = .ok (.sipush 4400, 3) := by decide +kernel
theorem dX9_init_58 : decode cX9_init 58 = .ok (.newarray .int, 2) := by decide +kernel
theorem dX9_init_60 : decode cX9_init 60 = .ok (.putfield 28, 3) := by decide +kernel
theorem dX9_init_63 : decode cX9_init 63 = .ok (.aload_n 0, 1) := by decide +kernel
theorem dX9_init_64 : decode cX9_init 64 = .ok (.sipush 4400, 3) := by decide +kernel
theorem dX9_init_67 : decode cX9_init 67 = .ok (.newarray .int, 2) := by decide +kernel
theorem dX9_init_69 : decode cX9_init 69 = .ok (.putfield 31, 3) := by decide +kernel
theorem dX9_init_72 : decode cX9_init 72 = .ok (.aload_n 0, 1) := by decide +kernel
theorem dX9_init_73 : decode cX9_init 73 = .ok (.sipush 220, 3) := by decide +kernel
theorem dX9_init_76 : decode cX9_init 76 = .ok (.newarray .int, 2) := by decide +kernel
theorem dX9_init_78 : decode cX9_init 78 = .ok (.putfield 34, 3) := by decide +kernel
theorem dX9_init_81 : decode cX9_init 81 = .ok (.aload_n 0, 1) := by decide +kernel
theorem dX9_init_82 : decode cX9_init 82 = .ok (.sipush 176, 3) := by decide +kernel
theorem dX9_init_85 : decode cX9_init 85 = .ok (.newarray .int, 2) := by decide +kernel
theorem dX9_init_87 : decode cX9_init 87 = .ok (.putfield 37, 3) := by decide +kernel
theorem dX9_init_90 : decode cX9_init 90 = .ok (.aload_n 0, 1) := by decide +kernel
theorem dX9_init_91 : decode cX9_init 91 = .ok (.sipush 176, 3) := by decide +kernel
theorem dX9_init_94 : decode cX9_init 94 = .ok (.newarray .int, 2) := by decide +kernel
theorem dX9_init_96 : decode cX9_init 96 = .ok (.putfield 40, 3) := by decide +kernel
theorem dX9_init_99 : decode cX9_init 99 = .ok (.aload_n 0, 1) := by decide +kernel
theorem dX9_init_100 : decode cX9_init 100 = .ok (.sipush 1056, 3) := by decide +kernel
theorem dX9_init_103 : decode cX9_init 103 = .ok (.newarray .int, 2) := by decide +kernel
theorem dX9_init_105 : decode cX9_init 105 = .ok (.putfield 43, 3) := by decide +kernel
theorem dX9_init_108 : decode cX9_init 108 = .ok (.aload_n 0, 1) := by decide +kernel
theorem dX9_init_109 : decode cX9_init 109 = .ok (.sipush 2200, 3) := by decide +kernel
theorem dX9_init_112 : decode cX9_init 112 = .ok (.newarray .int, 2) := by decide +kernel
theorem dX9_init_114 : decode cX9_init 114 = .ok (.putfield 46, 3) := by decide +kernel
theorem dX9_init_117 : decode cX9_init 117 = .ok (.aload_n 0, 1) := by decide +kernel
theorem dX9_init_118 : decode cX9_init 118 = .ok (.sipush 440, 3) := by decide +kernel
theorem dX9_init_121 : decode cX9_init 121 = .ok (.newarray .boolean, 2) := by decide +kernel
theorem dX9_init_123 : decode cX9_init 123 = .ok (.putfield 49, 3) := by decide +kernel
theorem dX9_init_126 : decode cX9_init 126 = .ok (.aload_n 0, 1) := by decide +kernel
theorem dX9_init_127 : decode cX9_init 127 = .ok (.bipush 120, 2) := by decide +kernel
theorem dX9_init_129 : decode cX9_init 129 = .ok (.newarray .int, 2) := by decide +kernel
theorem dX9_init_131 : decode cX9_init 131 = .ok (.putfield 53, 3) := by decide +kernel
theorem dX9_init_134 : decode cX9_init 134 = .ok (.aload_n 0, 1) := by decide +kernel
theorem dX9_init_135 : decode cX9_init 135 = .ok (.iconst 4, 1) := by decide +kernel
theorem dX9_init_136 : decode cX9_init 136 = .ok (.newarray .int, 2) := by decide +kernel
theorem dX9_init_138 : decode cX9_init 138 = .ok (.dup, 1) := by decide +kernel
theorem dX9_init_139 : decode cX9_init 139 = .ok (.iconst 0, 1) := by decide +kernel
theorem dX9_init_140 : decode cX9_init 140 = .ok (.iconst 1, 1) := by decide +kernel
theorem dX9_init_141 : decode cX9_init 141 = .ok (.iastore, 1) := by decide +kernel
theorem dX9_init_142 : decode cX9_init 142 = .ok (.dup, 1) := by decide +kernel
theorem dX9_init_143 : decode cX9_init 143 = .ok (.iconst 1, 1) := by decide +kernel
theorem dX9_init_144 : decode cX9_init 144 = .ok (.iconst 1, 1) := by decide +kernel
theorem dX9_init_145 : decode cX9_init 145 = .ok (.iastore, 1) := by decide +kernel
theorem dX9_init_146 : decode cX9_init 146 = .ok (.dup, 1) := by decide +kernel
theorem dX9_init_147 : decode cX9_init 147 = .ok (.iconst 2, 1) := by decide +kernel
theorem dX9_init_148 : decode cX9_init 148 = .ok (.iconst 1, 1) := by decide +kernel
theorem dX9_init_149 : decode cX9_init 149 = .ok (.iastore, 1) := by decide +kernel
theorem dX9_init_150 : decode cX9_init 150 = .ok (.dup, 1) := by decide +kernel
theorem dX9_init_151 : decode cX9_init 151 = .ok (.iconst 3, 1) := by decide +kernel
theorem dX9_init_152 : decode cX9_init 152 = .ok (.iconst 1, 1) := by decide +kernel
theorem dX9_init_153 : decode cX9_init 153 = .ok (.iastore, 1) := by decide +kernel
theorem dX9_init_154 : decode cX9_init 154 = .ok (.putfield 56, 3) := by decide +kernel
theorem dX9_init_157 : decode cX9_init 157 = .ok (.aload_n 0, 1) := by decide +kernel
theorem dX9_init_158 : decode cX9_init 158 = .ok (.iconst (-1), 1) := by decide +kernel
theorem dX9_init_159 : decode cX9_init 159 = .ok (.putfield 59, 3) := by decide +kernel
theorem dX9_init_162 : decode cX9_init 162 = .ok (.aload_n 0, 1) := by decide +kernel
theorem dX9_init_163 : decode cX9_init 163 = .ok (.bipush 10, 2) := by decide +kernel
theorem dX9_init_165 : decode cX9_init 165 = .ok (.newarray .int, 2) := by decide +kernel
theorem dX9_init_167 : decode cX9_init 167 = .ok (.putfield 63, 3) := by decide +kernel
theorem dX9_init_170 : decode cX9_init 170 = .ok (.aload_n 0, 1) := by decide +kernel
theorem dX9_init_171 : decode cX9_init 171 = .ok (.bipush 10, 2) := by decide +kernel
theorem dX9_init_173 : decode cX9_init 173 = .ok (.newarray .int, 2) := by decide +kernel
theorem dX9_init_175 : decode cX9_init 175 = .ok (.putfield 66, 3) := by decide +kernel
theorem dX9_init_178 : decode cX9_init 178 = .ok (.aload_n 0, 1) := by decide +kernel
theorem dX9_init_179 : decode cX9_init 179 = .ok (.bipush 28, 2) := by decide +kernel
theorem dX9_init_181 : decode cX9_init 181 = .ok (.newarray .int, 2) := by decide +kernel
theorem dX9_init_183 : decode cX9_init 183 = .ok (.dup, 1) := by decide +kernel
theorem dX9_init_184 : decode cX9_init 184 = .ok (.iconst 0, 1) := by decide +kernel
theorem dX9_init_185 : decode cX9_init 185 = .ok (.bipush 97, 2) := by decide +kernel
theorem dX9_init_187 : decode cX9_init 187 = .ok (.iastore, 1) := by decide +kernel
theorem dX9_init_188 : decode cX9_init 188 = .ok (.dup, 1) := by decide +kernel
theorem dX9_init_189 : decode cX9_init 189 = .ok (.iconst 1, 1) := by decide +kernel
theorem dX9_init_190 : decode cX9_init 190 = .ok (.bipush 100, 2) := by decide +kernel
theorem dX9_init_192 : decode cX9_init 192 = .ok (.iastore, 1) := by decide +kernel
theorem dX9_init_193 : decode cX9_init 193 = .ok (.dup, 1) := by decide +kernel
theorem dX9_init_194 : decode cX9_init 194 = .ok (.iconst 2, 1) := by decide +kernel
theorem dX9_init_195 : decode cX9_init 195 = .ok (.bipush 100, 2) := by decide +kernel
theorem dX9_init_197 : decode cX9_init 197 = .ok (.iastore, 1) := by decide +kernel
theorem dX9_init_198 : decode cX9_init 198 = .ok (.dup, 1) := by decide +kernel
theorem dX9_init_199 : decode cX9_init 199 = .ok (.iconst 3, 1) := by decide +kernel
theorem dX9_init_200 : decode cX9_init 200 = .ok (.iconst 0, 1) := by decide +kernel
theorem dX9_init_201 : decode cX9_init 201 = .ok (.iastore, 1) := by decide +kernel
theorem dX9_init_202 : decode cX9_init 202 = .ok (.dup, 1) := by decide +kernel
theorem dX9_init_203 : decode cX9_init 203 = .ok (.iconst 4, 1) := by decide +kernel
theorem dX9_init_204 : decode cX9_init 204 = .ok (.bipush 109, 2) := by decide +kernel
theorem dX9_init_206 : decode cX9_init 206 = .ok (.iastore, 1) := by decide +kernel
theorem dX9_init_207 : decode cX9_init 207 = .ok (.dup, 1) := by decide +kernel
theorem dX9_init_208 : decode cX9_init 208 = .ok (.iconst 5, 1) := by decide +kernel
theorem dX9_init_209 : decode cX9_init 209 = .ok (.bipush 117, 2) := by decide +kernel
theorem dX9_init_211 : decode cX9_init 211 = .ok (.iastore, 1) := by decide +kernel
theorem dX9_init_212 : decode cX9_init 212 = .ok (.dup, 1) := by decide +kernel
theorem dX9_init_213 : decode cX9_init 213 = .ok (.bipush 6, 2) := by decide +kernel
theorem dX9_init_215 : decode cX9_init 215 = .ok (.bipush 108, 2) := by decide +kernel
theorem dX9_init_217 : decode cX9_init 217 = .ok (.iastore, 1) := by decide +kernel
theorem dX9_init_218 : decode cX9_init 218 = .ok (.dup, 1) := by decide +kernel
theorem dX9_init_219 : decode cX9_init 219 = .ok (.bipush 7, 2) := by decide +kernel
theorem dX9_init_221 : decode cX9_init 221 = .ok (.iconst 0, 1) := by decide +kernel
theorem dX9_init_222 : decode cX9_init 222 = .ok (.iastore, 1) := by decide +kernel
theorem dX9_init_223 : decode cX9_init 223 = .ok (.dup, 1) := by decide +kernel
theorem dX9_init_224 : decode cX9_init 224 = .ok (.bipush 8, 2) := by decide +kernel
theorem dX9_init_226 : decode cX9_init 226 = .ok (.bipush 112, 2) := by decide +kernel
theorem dX9_init_228 : decode cX9_init 228 = .ok (.iastore, 1) := by decide +kernel
theorem dX9_init_229 : decode cX9_init 229 = .ok (.dup, 1) := by decide +kernel
theorem dX9_init_230 : decode cX9_init 230 = .ok (.bipush 9, 2) := by decide +kernel
theorem dX9_init_232 : decode cX9_init 232 = .ok (.bipush 117, 2) := by decide +kernel
theorem dX9_init_234 : decode cX9_init 234 = .ok (.iastore, 1) := by decide +kernel
theorem dX9_init_235 : decode cX9_init 235 = .ok (.dup, 1) := by decide +kernel
theorem dX9_init_236 : decode cX9_init 236 = .ok (.bipush 10, 2) := by decide +kernel
theorem dX9_init_238 : decode cX9_init 238 = .ok (.bipush 116, 2) := by decide +kernel
theorem dX9_init_240 : decode cX9_init 240 = .ok (.iastore, 1) := by decide +kernel
theorem dX9_init_241 : decode cX9_init 241 = .ok (.dup, 1) := by decide +kernel
theorem dX9_init_242 : decode cX9_init 242 = .ok (.bipush 11, 2) := by decide +kernel
theorem dX9_init_244 : decode cX9_init 244 = .ok (.iconst 0, 1) := by decide +kernel
theorem dX9_init_245 : decode cX9_init 245 = .ok (.iastore, 1) := by decide +kernel
theorem dX9_init_246 : decode cX9_init 246 = .ok (.dup, 1) := by decide +kernel
theorem dX9_init_247 : decode cX9_init 247 = .ok (.bipush 12, 2) := by decide +kernel
theorem dX9_init_249 : decode cX9_init 249 = .ok (.bipush 103, 2) := by decide +kernel
theorem dX9_init_251 : decode cX9_init 251 = .ok (.iastore, 1) := by decide +kernel
theorem dX9_init_252 : decode cX9_init 252 = .ok (.dup, 1) := by decide +kernel
theorem dX9_init_253 : decode cX9_init 253 = .ok (.bipush 13, 2) := by decide +kernel
theorem dX9_init_255 : decode cX9_init 255 = .ok (.bipush 101, 2) := by decide +kernel
theorem dX9_init_257 : decode cX9_init 257 = .ok (.iastore, 1) := by decide +kernel
theorem dX9_init_258 : decode cX9_init 258 = .ok (.dup, 1) := by decide +kernel
theorem dX9_init_259 : decode cX9_init 259 = .ok (.bipush 14, 2) := by decide +kernel
theorem dX9_init_261 : decode cX9_init 261 = .ok (.bipush 116, 2) := by decide +kernel
theorem dX9_init_263 : decode cX9_init 263 = .ok (.iastore, 1) := by decide +kernel
theorem dX9_init_264 : decode cX9_init 264 = .ok (.dup, 1) := by decide +kernel
theorem dX9_init_265 : decode cX9_init 265 = .ok (.bipush 15, 2) := by decide +kernel
theorem dX9_init_267 : decode cX9_init 267 = .ok (.iconst 0, 1) := by decide +kernel
theorem dX9_init_268 : decode cX9_init 268 = .ok (.iastore, 1) := by decide +kernel
theorem dX9_init_269 : decode cX9_init 269 = .ok (.dup, 1) := by decide +kernel
theorem dX9_init_270 : decode cX9_init 270 = .ok (.bipush 16, 2) := by decide +kernel
theorem dX9_init_272 : decode cX9_init 272 = .ok (.bipush 99, 2) := by decide +kernel
theorem dX9_init_274 : decode cX9_init 274 = .ok (.iastore, 1) := by decide +kernel
theorem dX9_init_275 : decode cX9_init 275 = .ok (.dup, 1) := by decide +kernel
theorem dX9_init_276 : decode cX9_init 276 = .ok (.bipush 17, 2) := by decide +kernel
theorem dX9_init_278 : decode cX9_init 278 = .ok (.bipush 97, 2) := by decide +kernel
theorem dX9_init_280 : decode cX9_init 280 = .ok (.iastore, 1) := by decide +kernel
theorem dX9_init_281 : decode cX9_init 281 = .ok (.dup, 1) := by decide +kernel
theorem dX9_init_282 : decode cX9_init 282 = .ok (.bipush 18, 2) := by decide +kernel
theorem dX9_init_284 : decode cX9_init 284 = .ok (.bipush 108, 2) := by decide +kernel
theorem dX9_init_286 : decode cX9_init 286 = .ok (.iastore, 1) := by decide +kernel
theorem dX9_init_287 : decode cX9_init 287 = .ok (.dup, 1) := by decide +kernel
theorem dX9_init_288 : decode cX9_init 288 = .ok (.bipush 19, 2) := by decide +kernel
theorem dX9_init_290 : decode cX9_init 290 = .ok (.bipush 108, 2) := by decide +kernel
theorem dX9_init_292 : decode cX9_init 292 = .ok (.iastore, 1) := by decide +kernel
theorem dX9_init_293 : decode cX9_init 293 = .ok (.dup, 1) := by decide +kernel
theorem dX9_init_294 : decode cX9_init 294 = .ok (.bipush 20, 2) := by decide +kernel
theorem dX9_init_296 : decode cX9_init 296 = .ok (.bipush 111, 2) := by decide +kernel
theorem dX9_init_298 : decode cX9_init 298 = .ok (.iastore, 1) := by decide +kernel
theorem dX9_init_299 : decode cX9_init 299 = .ok (.dup, 1) := by decide +kernel
theorem dX9_init_300 : decode cX9_init 300 = .ok (.bipush 21, 2) := by decide +kernel
theorem dX9_init_302 : decode cX9_init 302 = .ok (.bipush 100, 2) := by decide +kernel
theorem dX9_init_304 : decode cX9_init 304 = .ok (.iastore, 1) := by decide +kernel
theorem dX9_init_305 : decode cX9_init 305 = .ok (.dup, 1) := by decide +kernel
theorem dX9_init_306 : decode cX9_init 306 = .ok (.bipush 22, 2) := by decide +kernel
theorem dX9_init_308 : decode cX9_init 308 = .ok (.bipush 100, 2) := by decide +kernel
theorem dX9_init_310 : decode cX9_init 310 = .ok (.iastore, 1) := by decide +kernel
theorem dX9_init_311 : decode cX9_init 311 = .ok (.dup, 1) := by decide +kernel
theorem dX9_init_312 : decode cX9_init 312 = .ok (.bipush 23, 2) := by decide +kernel
theorem dX9_init_314 : decode cX9_init 314 = .ok (.iconst 0, 1) := by decide +kernel
theorem dX9_init_315 : decode cX9_init 315 = .ok (.iastore, 1) := by decide +kernel
theorem dX9_init_316 : decode cX9_init 316 = .ok (.dup, 1) := by decide +kernel
theorem dX9_init_317 : decode cX9_init 317 = .ok (.bipush 24, 2) := by decide +kernel
theorem dX9_init_319 : decode cX9_init 319 = .ok (.bipush 110, 2) := by decide +kernel
theorem dX9_init_321 : decode cX9_init 321 = .ok (.iastore, 1) := by decide +kernel
theorem dX9_init_322 : decode cX9_init 322 = .ok (.dup, 1) := by decide +kernel
theorem dX9_init_323 : decode cX9_init 323 = .ok (.bipush 25, 2) := by decide +kernel
theorem dX9_init_325 : decode cX9_init 325 = .ok (.bipush 101, 2) := by decide +kernel
theorem dX9_init_327 : decode cX9_init 327 = .ok (.iastore, 1) := by decide +kernel
theorem dX9_init_328 : decode cX9_init 328 = .ok (.dup, 1) := by decide +kernel
theorem dX9_init_329 : decode cX9_init 329 = .ok (.bipush 26, 2) := by decide +kernel
theorem dX9_init_331 : decode cX9_init 331 = .ok (.bipush 119, 2) := by decide +kernel
theorem dX9_init_333 : decode cX9_init 333 = .ok (.iastore, 1) := by decide +kernel
theorem dX9_init_334 : decode cX9_init 334 = .ok (.dup, 1) := by decide +kernel
theorem dX9_init_335 : decode cX9_init 335 = .ok (.bipush 27, 2) := by decide +kernel
theorem dX9_init_337 : decode cX9_init 337 = .ok (.bipush 115, 2) := by decide +kernel
theorem dX9_init_339 : decode cX9_init 339 = .ok (.iastore, 1) := by decide +kernel
theorem dX9_init_340 : decode cX9_init 340 = .ok (.putfield 69, 3) := by decide +kernel
theorem dX9_init_343 : decode cX9_init 343 = .ok (.aload_n 0, 1) := by decide +kernel
theorem dX9_init_344 : decode cX9_init 344 = .ok (.bipush 64, 2) := by decide +kernel
theorem dX9_init_346 : decode cX9_init 346 = .ok (.newarray .int, 2) := by decide +kernel
theorem dX9_init_348 : decode cX9_init 348 = .ok (.putfield 72, 3) := by decide +kernel
theorem dX9_init_351 : decode cX9_init 351 = .ok (.aload_n 0, 1) := by decide +kernel
theorem dX9_init_352 : decode cX9_init 352 = .ok (.bipush 64, 2) := by decide +kernel
theorem dX9_init_354 : decode cX9_init 354 = .ok (.newarray .int, 2) := by decide +kernel
theorem dX9_init_356 : decode cX9_init 356 = .ok (.putfield 75, 3) := by decide +kernel
theorem dX9_init_359 : decode cX9_init 359 = .ok (.aload_n 0, 1) := by decide +kernel
theorem dX9_init_360 : decode cX9_init 360 = .ok (.bipush 10, 2) := by decide +kernel
theorem dX9_init_362 : decode cX9_init 362 = .ok (.newarray .int, 2) := by decide +kernel
theorem dX9_init_364 : decode cX9_init 364 = .ok (.putfield 78, 3) := by decide +kernel
theorem dX9_init_367 : decode cX9_init 367 = .ok (.aload_n 0, 1) := by decide +kernel
theorem dX9_init_368 : decode cX9_init 368 = .ok (.bipush 100, 2) := by decide +kernel
theorem dX9_init_370 : decode cX9_init 370 = .ok (.newarray .int, 2) := by decide +kernel
theorem dX9_init_372 : decode cX9_init 372 = .ok (.putfield 81, 3) := by decide +kernel
theorem dX9_init_375 : decode cX9_init 375 = .ok (.aload_n 0, 1) := by decide +kernel
theorem dX9_init_376 : decode cX9_init 376 = .ok (.bipush 100, 2) := by decide +kernel
theorem dX9_init_378 : decode cX9_init 378 = .ok (.newarray .int, 2) := by decide +kernel
theorem dX9_init_380 : decode cX9_init 380 = .ok (.putfield 84, 3) := by decide +kernel
theorem dX9_init_383 : decode cX9_init 383 = .ok (.aload_n 0, 1) := by decide +kernel
theorem dX9_init_384 : decode cX9_init 384 = .ok (.bipush 100, 2) := by decide +kernel
theorem dX9_init_386 : decode cX9_init 386 = .ok (.newarray .int, 2) := by decide +kernel
theorem dX9_init_388 : decode cX9_init 388 = .ok (.putfield 87, 3) := by decide +kernel
theorem dX9_init_391 : decode cX9_init 391 = .ok (.aload_n 0, 1) := by decide +kernel
theorem dX9_init_392 : decode cX9_init 392 = .ok (.bipush 10, 2) := by decide +kernel
theorem dX9_init_394 : decode cX9_init 394 = .ok (.newarray .int, 2) := by decide +kernel
theorem dX9_init_396 : decode cX9_init 396 = .ok (.putfield 90, 3) := by decide +kernel
theorem dX9_init_399 : decode cX9_init 399 = .ok (.aload_n 0, 1) := by decide +kernel
theorem dX9_init_400 : decode cX9_init 400 = .ok (.sipush 1024, 3) := by decide +kernel
theorem dX9_init_403 : decode cX9_init 403 = .ok (.newarray .int, 2) := by decide +kernel
theorem dX9_init_405 : decode cX9_init 405 = .ok (.putfield 93, 3) := by decide +kernel
theorem dX9_init_408 : decode cX9_init 408 = .ok (.aload_n 0, 1) := by decide +kernel
theorem dX9_init_409 : decode cX9_init 409 = .ok (.bipush 10, 2) := by decide +kernel
theorem dX9_init_411 : decode cX9_init 411 = .ok (.newarray .int, 2) := by decide +kernel
theorem dX9_init_413 : decode cX9_init 413 = .ok (.putfield 96, 3) := by decide +kernel
theorem dX9_init_416 : decode cX9_init 416 = .ok (.aload_n 0, 1) := by decide +kernel
theorem dX9_init_417 : decode cX9_init 417 = .ok (.bipush 10, 2) := by decide +kernel
theorem dX9_init_419 : decode cX9_init 419 = .ok (.newarray .int, 2) := by decide +kernel
theorem dX9_init_421 : decode cX9_init 421 = .ok (.putfield 99, 3) := by decide +kernel
theorem dX9_init_424 : decode cX9_init 424 = .ok (.aload_n 0, 1) := by decide +kernel
theorem dX9_init_425 : decode cX9_init 425 = .ok (.bipush 100, 2) := by decide +kernel
theorem dX9_init_427 : decode cX9_init 427 = .ok (.newarray .int, 2) := by decide +kernel
theorem dX9_init_429 : decode cX9_init 429 = .ok (.putfield 102, 3) := by decide +kernel
theorem dX9_init_432 : decode cX9_init 432 = .ok (.aload_n 0, 1) := by decide +kernel
theorem dX9_init_433 : decode cX9_init 433 = .ok (.bipush 10, 2) := by decide +kernel
theorem dX9_init_435 : decode cX9_init 435 = .ok (.newarray .int, 2) := by decide +kernel
theorem dX9_init_437 : decode cX9_init 437 = .ok (.putfield 105, 3) := by decide +kernel
theorem dX9_init_440 : decode cX9_init 440 = .ok (.aload_n 0, 1) := by decide +kernel
theorem dX9_init_441 : decode cX9_init 441 = .ok (.bipush 10, 2) := by decide +kernel
theorem dX9_init_443 : decode cX9_init 443 = .ok (.newarray .int, 2) := by decide +kernel
theorem dX9_init_445 : decode cX9_init 445 = .ok (.putfield 108, 3) := by decide +kernel
theorem dX9_init_448 : decode cX9_init 448 = .ok (.aload_n 0, 1) := by decide +kernel
theorem dX9_init_449 : decode cX9_init 449 = .ok (.bipush 100, 2) := by decide +kernel
theorem dX9_init_451 : decode cX9_init 451 = .ok (.newarray .boolean, 2) := by decide +kernel
theorem dX9_init_453 : decode cX9_init 453 = .ok (.putfield 111, 3) := by decide +kernel
theorem dX9_init_456 : decode cX9_init 456 = .ok (.aload_n 0, 1) := by decide +kernel
theorem dX9_init_457 : decode cX9_init 457 = .ok (.bipush 100, 2) := by decide +kernel
theorem dX9_init_459 : decode cX9_init 459 = .ok (.newarray .boolean, 2) := by decide +kernel
theorem dX9_init_461 : decode cX9_init 461 = .ok (.putfield 114, 3) := by decide +kernel
theorem dX9_init_464 : decode cX9_init 464 = .ok (.return_, 1) := by decide +kernel
theorem dX9_in_0 : decode cX9_in 0 = .ok (.iload_n 0, 1) := by decide +kernel
theorem dX9_in_1 : decode cX9_in 1 = .ok (.iload_n 1, 1) := by decide +kernel
theorem dX9_in_2 : decode cX9_in 2 = .ok (.if_icmp .lt 12, 3) := by decide +kernel
theorem dX9_in_5 : decode cX9_in 5 = .ok (.iload_n 0, 1) := by decide +kernel
theorem dX9_in_6 : decode cX9_in 6 = .ok (.iload_n 2, 1) := by decide +kernel
theorem dX9_in_7 : decode cX9_in 7 = .ok (.if_icmp .gt 7, 3) := by decide +kernel
theorem dX9_in_10 : decode cX9_in 10 = .ok (.iconst 1, 1) := by decide +kernel
theorem dX9_in_11 : decode cX9_in 11 = .ok (.goto 4, 3) := by decide +kernel
theorem dX9_in_14 : decode cX9_in 14 = .ok (.iconst 0, 1) := by decide +kernel
theorem dX9_in_15 : decode cX9_in 15 = .ok (.ireturn, 1) := by decide +kernel
theorem dX9_isPart_0 : decode cX9_isPart 0 = .ok (.iload_n 1, 1) := by decide +kernel
theorem dX9_isPart_1 : decode cX9_isPart 1 = .ok (.iconst 0, 1) := by decide +kernel
theorem dX9_isPart_2 : decode cX9_isPart 2 = .ok (.aload_n 0, 1) := by decide +kernel
theorem dX9_isPart_3 : decode cX9_isPart 3 = .ok (.getfield 7, 3) := by decide +kernel
theorem dX9_isPart_6 : decode cX9_isPart 6 = .ok (.iconst 0, 1) := by decide +kernel
theorem dX9_isPart_7 : decode cX9_isPart 7 = .ok (.iaload, 1) := by decide +kernel
theorem dX9_isPart_8 : decode cX9_isPart 8 = .ok (.iconst 1, 1) := by decide +kernel
theorem dX9_isPart_9 : decode cX9_isPart 9 = .ok (.isub, 1) := by decide +kernel
theorem dX9_isPart_10 : decode cX9_isPart 10 = .ok (.invokestatic 117, 3) := by decide +kernel
theorem dX9_isPart_13 : decode cX9_isPart 13 = .ok (.ireturn, 1) := by decide +kernel
theorem dX9_isRoutine_0 : decode cX9_isRoutine 0 = .ok (.iload_n 1, 1) := by decide +kernel
theorem dX9_isRoutine_1 : decode cX9_isRoutine 1 = .ok (.iconst 0, 1) := by decide +kernel
theorem dX9_isRoutine_2 : decode cX9_isRoutine 2 = .ok (.aload_n 0, 1) := by decide +kernel
theorem dX9_isRoutine_3 : decode cX9_isRoutine 3 = .ok (.getfield 13, 3) := by decide +kernel
theorem dX9_isRoutine_6 : decode cX9_isRoutine 6 = .ok (.iconst 0, 1) := by decide +kernel
theorem dX9_isRoutine_7 : decode cX9_isRoutine 7 = .ok (.iaload, 1) := by decide +kernel
theorem dX9_isRoutine_8 : decode cX9_isRoutine 8 = .ok (.iconst 1, 1) := by decide +kernel
theorem dX9_isRoutine_9 : decode cX9_isRoutine 9 = .ok (.isub, 1) := by decide +kernel
theorem dX9_isRoutine_10 : decode cX9_isRoutine 10 = .ok (.invokestatic 117, 3) := by decide +kernel
theorem dX9_isRoutine_13 : decode cX9_isRoutine 13 = .ok (.ireturn, 1) := by decide +kernel
theorem dX9_copies_0 : decode cX9_copies 0 = .ok (.aload_n 0, 1) := by decide +kernel
theorem dX9_copies_1 : decode cX9_copies 1 = .ok (.getfield 7, 3) := by decide +kernel
theorem dX9_copies_4 : decode cX9_copies 4 = .ok (.iload_n 2, 1) := by decide +kernel
theorem dX9_copies_5 : decode cX9_copies 5 = .ok (.aload_n 0, 1) := by decide +kernel
theorem dX9_copies_6 : decode cX9_copies 6 = .ok (.getfield 7, 3) := by decide +kernel
theorem dX9_copies_9 : decode cX9_copies 9 = .ok (.iload_n 1, 1) := by decide +kernel
theorem dX9_copies_10 : decode cX9_copies 10 = .ok (.iaload, 1) := by decide +kernel
theorem dX9_copies_11 : decode cX9_copies 11 = .ok (.iastore, 1) := by decide +kernel
theorem dX9_copies_12 : decode cX9_copies 12 = .ok (.aload_n 0, 1) := by decide +kernel
theorem dX9_copies_13 : decode cX9_copies 13 = .ok (.getfield 13, 3) := by decide +kernel
theorem dX9_copies_16 : decode cX9_copies 16 = .ok (.iload_n 2, 1) := by decide +kernel
theorem dX9_copies_17 : decode cX9_copies 17 = .ok (.aload_n 0, 1) := by decide +kernel
theorem dX9_copies_18 : decode cX9_copies 18 = .ok (.getfield 13, 3) := by decide +kernel
theorem dX9_copies_21 : decode cX9_copies 21 = .ok (.iload_n 1, 1) := by decide +kernel
theorem dX9_copies_22 : decode cX9_copies 22 = .ok (.iaload, 1) := by decide +kernel
theorem dX9_copies_23 : decode cX9_copies 23 = .ok (.iastore, 1) := by decide +kernel
theorem dX9_copies_24 : decode cX9_copies 24 = .ok (.aload_n 0, 1) := by decide +kernel
theorem dX9_copies_25 : decode cX9_copies 25 = .ok (.getfield 16, 3) := by decide +kernel
theorem dX9_copies_28 : decode cX9_copies 28 = .ok (.iload_n 2, 1) := by decide +kernel
theorem dX9_copies_29 : decode cX9_copies 29 = .ok (.aload_n 0, 1) := by decide +kernel
theorem dX9_copies_30 : decode cX9_copies 30 = .ok (.getfield 16, 3) := by decide +kernel
theorem dX9_copies_33 : decode cX9_copies 33 = .ok (.iload_n 1, 1) := by decide +kernel
theorem dX9_copies_34 : decode cX9_copies 34 = .ok (.iaload, 1) := by decide +kernel
theorem dX9_copies_35 : decode cX9_copies 35 = .ok (.iastore, 1) := by decide +kernel
theorem dX9_copies_36 : decode cX9_copies 36 = .ok (.aload_n 0, 1) := by decide +kernel
theorem dX9_copies_37 : decode cX9_copies 37 = .ok (.getfield 19, 3) := by decide +kernel
theorem dX9_copies_40 : decode cX9_copies 40 = .ok (.iload_n 2, 1) := by decide +kernel
theorem dX9_copies_41 : decode cX9_copies 41 = .ok (.aload_n 0, 1) := by decide +kernel
theorem dX9_copies_42 : decode cX9_copies 42 = .ok (.getfield 19, 3) := by decide +kernel
theorem dX9_copies_45 : decode cX9_copies 45 = .ok (.iload_n 1, 1) := by decide +kernel
theorem dX9_copies_46 : decode cX9_copies 46 = .ok (.iaload, 1) := by decide +kernel
theorem dX9_copies_47 : decode cX9_copies 47 = .ok (.iastore, 1) := by decide +kernel
theorem dX9_copies_48 : decode cX9_copies 48 = .ok (.iconst 0, 1) := by decide +kernel
theorem dX9_copies_49 : decode cX9_copies 49 = .ok (.istore_n 3, 1) := by decide +kernel
theorem dX9_copies_50 : decode cX9_copies 50 = .ok (.iload_n 3, 1) := by decide +kernel
theorem dX9_copies_51 : decode cX9_copies 51 = .ok (.bipush 20, 2) := by decide +kernel
theorem dX9_copies_53 : decode cX9_copies 53 = .ok (.if_icmp .ge 75, 3) := by decide +kernel
theorem dX9_copies_56 : decode cX9_copies 56 = .ok (.aload_n 0, 1) := by decide +kernel
theorem dX9_copies_57 : decode cX9_copies 57 = .ok (.getfield 22, 3) := by decide +kernel
theorem dX9_copies_60 : decode cX9_copies 60 = .ok (.bipush 20, 2) := by decide +kernel
theorem dX9_copies_62 : decode cX9_copies 62 = .ok (.iload_n 2, 1) := by decide +kernel
theorem dX9_copies_63 : decode cX9_copies 63 = .ok (.imul, 1) := by decide +kernel
theorem dX9_copies_64 : decode cX9_copies 64 = .ok (.iload_n 3, 1) := by decide +kernel
theorem dX9_copies_65 : decode cX9_copies 65 = .ok (.iadd, 1) := by decide +kernel
theorem dX9_copies_66 : decode cX9_copies 66 = .ok (.aload_n 0, 1) := by decide +kernel
theorem dX9_copies_67 : decode cX9_copies 67 = .ok (.getfield 22, 3) := by decide +kernel
theorem dX9_copies_70 : decode cX9_copies 70 = .ok (.bipush 20, 2) := by decide +kernel
theorem dX9_copies_72 : decode cX9_copies 72 = .ok (.iload_n 1, 1) := by decide +kernel
theorem dX9_copies_73 : decode cX9_copies 73 = .ok (.imul, 1) := by decide +kernel
theorem dX9_copies_74 : decode cX9_copies 74 = .ok (.iload_n 3, 1) := by decide +kernel
theorem dX9_copies_75 : decode cX9_copies 75 = .ok (.iadd, 1) := by decide +kernel
theorem dX9_copies_76 : decode cX9_copies 76 = .ok (.iaload, 1) := by decide +kernel
theorem dX9_copies_77 : decode cX9_copies 77 = .ok (.iastore, 1) := by decide +kernel
theorem dX9_copies_78 : decode cX9_copies 78 = .ok (.aload_n 0, 1) := by decide +kernel
theorem dX9_copies_79 : decode cX9_copies 79 = .ok (.getfield 25, 3) := by decide +kernel
theorem dX9_copies_82 : decode cX9_copies 82 = .ok (.bipush 20, 2) := by decide +kernel
theorem dX9_copies_84 : decode cX9_copies 84 = .ok (.iload_n 2, 1) := by decide +kernel
theorem dX9_copies_85 : decode cX9_copies 85 = .ok (.imul, 1) := by decide +kernel
theorem dX9_copies_86 : decode cX9_copies 86 = .ok (.iload_n 3, 1) := by decide +kernel
theorem dX9_copies_87 : decode cX9_copies 87 = .ok (.iadd, 1) := by decide +kernel
theorem dX9_copies_88 : decode cX9_copies 88 = .ok (.aload_n 0, 1) := by decide +kernel
theorem dX9_copies_89 : decode cX9_copies 89 = .ok (.getfield 25, 3) := by decide +kernel
theorem dX9_copies_92 : decode cX9_copies 92 = .ok (.bipush 20, 2) := by decide +kernel
theorem dX9_copies_94 : decode cX9_copies 94 = .ok (.iload_n 1, 1) := by decide +kernel
theorem dX9_copies_95 : decode cX9_copies 95 = .ok (.imul, 1) := by decide +kernel
theorem dX9_copies_96 : decode cX9_copies 96 = .ok (.iload_n 3, 1) := by decide +kernel
theorem dX9_copies_97 : decode cX9_copies 97 = .ok (.iadd, 1) := by decide +kernel
theorem dX9_copies_98 : decode cX9_copies 98 = .ok (.iaload, 1) := by decide +kernel
theorem dX9_copies_99 : decode cX9_copies 99 = .ok (.iastore, 1) := by decide +kernel
theorem dX9_copies_100 : decode cX9_copies 100 = .ok (.aload_n 0, 1) := by decide +kernel
theorem dX9_copies_101 : decode cX9_copies 101 = .ok (.getfield 49, 3) := by decide +kernel
theorem dX9_copies_104 : decode cX9_copies 104 = .ok (.bipush 20, 2) := by decide +kernel
theorem dX9_copies_106 : decode cX9_copies 106 = .ok (.iload_n 2, 1) := by decide +kernel
theorem dX9_copies_107 : decode cX9_copies 107 = .ok (.imul, 1) := by decide +kernel
theorem dX9_copies_108 : decode cX9_copies 108 = .ok (.iload_n 3, 1) := by decide +kernel
theorem dX9_copies_109 : decode cX9_copies 109 = .ok (.iadd, 1) := by decide +kernel
theorem dX9_copies_110 : decode cX9_copies 110 = .ok (.aload_n 0, 1) := by decide +kernel
theorem dX9_copies_111 : decode cX9_copies 111 = .ok (.getfield 49, 3) := by decide +kernel
theorem dX9_copies_114 : decode cX9_copies 114 = .ok (.bipush 20, 2) := by decide +kernel
theorem dX9_copies_116 : decode cX9_copies 116 = .ok (.iload_n 1, 1) := by decide +kernel
theorem dX9_copies_117 : decode cX9_copies 117 = .ok (.imul, 1) := by decide +kernel
theorem dX9_copies_118 : decode cX9_copies 118 = .ok (.iload_n 3, 1) := by decide +kernel
theorem dX9_copies_119 : decode cX9_copies 119 = .ok (.iadd, 1) := by decide +kernel
theorem dX9_copies_120 : decode cX9_copies 120 = .ok (.baload, 1) := by decide +kernel
theorem dX9_copies_121 : decode cX9_copies 121 = .ok (.bastore, 1) := by decide +kernel
theorem dX9_copies_122 : decode cX9_copies 122 = .ok (.iinc 3 1, 3) := by decide +kernel
theorem dX9_copies_125 : decode cX9_copies 125 = .ok (.goto (-75), 3) := by decide +kernel
theorem dX9_copies_128 : decode cX9_copies 128 = .ok (.iconst 0, 1) := by decide +kernel
theorem dX9_copies_129 : decode cX9_copies 129 = .ok (.istore_n 3, 1) := by decide +kernel
theorem dX9_copies_130 : decode cX9_copies 130 = .ok (.iload_n 3, 1) := by decide +kernel
theorem dX9_copies_131 : decode cX9_copies 131 = .ok (.sipush 200, 3) := by decide +kernel
theorem dX9_copies_134 : decode cX9_copies 134 = .ok (.if_icmp .ge 57, 3) := by decide +kernel
theorem dX9_copies_137 : decode cX9_copies 137 = .ok (.aload_n 0, 1) := by decide +kernel
theorem dX9_copies_138 : decode cX9_copies 138 = .ok (.getfield 28, 3) := by decide +kernel
theorem dX9_copies_141 : decode cX9_copies 141 = .ok (.sipush 200, 3) := by decide +kernel
theorem dX9_copies_144 : decode cX9_copies 144 = .ok (.iload_n 2, 1) := by decide +kernel
theorem dX9_copies_145 : decode cX9_copies 145 = .ok (.imul, 1) := by decide +kernel
theorem dX9_copies_146 : decode cX9_copies 146 = .ok (.iload_n 3, 1) := by decide +kernel
theorem dX9_copies_147 : decode cX9_copies 147 = .ok (.iadd, 1) := by decide +kernel
theorem dX9_copies_148 : decode cX9_copies 148 = .ok (.aload_n 0, 1) := by decide +kernel
theorem dX9_copies_149 : decode cX9_copies 149 = .ok (.getfield 28, 3) := by decide +kernel
theorem dX9_copies_152 : decode cX9_copies 152 = .ok (.sipush 200, 3) := by decide +kernel
theorem dX9_copies_155 : decode cX9_copies 155 = .ok (.iload_n 1, 1) := by decide +kernel
theorem dX9_copies_156 : decode cX9_copies 156 = .ok (.imul, 1) := by decide +kernel
theorem dX9_copies_157 : decode cX9_copies 157 = .ok (.iload_n 3, 1) := by decide +kernel
theorem dX9_copies_158 : decode cX9_copies 158 = .ok (.iadd, 1) := by decide +kernel
theorem dX9_copies_159 : decode cX9_copies 159 = .ok (.iaload, 1) := by decide +kernel
theorem dX9_copies_160 : decode cX9_copies 160 = .ok (.iastore, 1) := by decide +kernel
theorem dX9_copies_161 : decode cX9_copies 161 = .ok (.aload_n 0, 1) := by decide +kernel
theorem dX9_copies_162 : decode cX9_copies 162 = .ok (.getfield 31, 3) := by decide +kernel
theorem dX9_copies_165 : decode cX9_copies 165 = .ok (.sipush 200, 3) := by decide +kernel
theorem dX9_copies_168 : decode cX9_copies 168 = .ok (.iload_n 2, 1) := by decide +kernel
theorem dX9_copies_169 : decode cX9_copies 169 = .ok (.imul, 1) := by decide +kernel
theorem dX9_copies_170 : decode cX9_copies 170 = .ok (.iload_n 3, 1) := by decide +kernel
theorem dX9_copies_171 : decode cX9_copies 171 = .ok (.iadd, 1) := by decide +kernel
theorem dX9_copies_172 : decode cX9_copies 172 = .ok (.aload_n 0, 1) := by decide +kernel
theorem dX9_copies_173 : decode cX9_copies 173 = .ok (.getfield 31, 3) := by decide +kernel
theorem dX9_copies_176 : decode cX9_copies 176 = .ok (.sipush 200, 3) := by decide +kernel
theorem dX9_copies_179 : decode cX9_copies 179 = .ok (.iload_n 1, 1) := by decide +kernel
theorem dX9_copies_180 : decode cX9_copies 180 = .ok (.imul, 1) := by decide +kernel
theorem dX9_copies_181 : decode cX9_copies 181 = .ok (.iload_n 3, 1) := by decide +kernel
theorem dX9_copies_182 : decode cX9_copies 182 = .ok (.iadd, 1) := by decide +kernel
theorem dX9_copies_183 : decode cX9_copies 183 = .ok (.iaload, 1) := by decide +kernel
theorem dX9_copies_184 : decode cX9_copies 184 = .ok (.iastore, 1) := by decide +kernel
theorem dX9_copies_185 : decode cX9_copies 185 = .ok (.iinc 3 1, 3) := by decide +kernel
theorem dX9_copies_188 : decode cX9_copies 188 = .ok (.goto (-58), 3) := by decide +kernel
theorem dX9_copies_191 : decode cX9_copies 191 = .ok (.iconst 0, 1) := by decide +kernel
theorem dX9_copies_192 : decode cX9_copies 192 = .ok (.istore_n 3, 1) := by decide +kernel
theorem dX9_copies_193 : decode cX9_copies 193 = .ok (.iload_n 3, 1) := by decide +kernel
theorem dX9_copies_194 : decode cX9_copies 194 = .ok (.bipush 10, 2) := by decide +kernel
theorem dX9_copies_196 : decode cX9_copies 196 = .ok (.if_icmp .ge 31, 3) := by decide +kernel
theorem dX9_copies_199 : decode cX9_copies 199 = .ok (.aload_n 0, 1) := by decide +kernel
theorem dX9_copies_200 : decode cX9_copies 200 = .ok (.getfield 34, 3) := by decide +kernel
theorem dX9_copies_203 : decode cX9_copies 203 = .ok (.bipush 10, 2) := by decide +kernel
theorem dX9_copies_205 : decode cX9_copies 205 = .ok (.iload_n 2, 1) := by decide +kernel
theorem dX9_copies_206 : decode cX9_copies 206 = .ok (.imul, 1) := by decide +kernel
theorem dX9_copies_207 : decode cX9_copies 207 = .ok (.iload_n 3, 1) := by decide +kernel
theorem dX9_copies_208 : decode cX9_copies 208 = .ok (.iadd, 1) := by decide +kernel
theorem dX9_copies_209 : decode cX9_copies 209 = .ok (.aload_n 0, 1) := by decide +kernel
theorem dX9_copies_210 : decode cX9_copies 210 = .ok (.getfield 34, 3) := by decide +kernel
theorem dX9_copies_213 : decode cX9_copies 213 = .ok (.bipush 10, 2) := by decide +kernel
theorem dX9_copies_215 : decode cX9_copies 215 = .ok (.iload_n 1, 1) := by decide +kernel
theorem dX9_copies_216 : decode cX9_copies 216 = .ok (.imul, 1) := by decide +kernel
theorem dX9_copies_217 : decode cX9_copies 217 = .ok (.iload_n 3, 1) := by decide +kernel
theorem dX9_copies_218 : decode cX9_copies 218 = .ok (.iadd, 1) := by decide +kernel
theorem dX9_copies_219 : decode cX9_copies 219 = .ok (.iaload, 1) := by decide +kernel
theorem dX9_copies_220 : decode cX9_copies 220 = .ok (.iastore, 1) := by decide +kernel
theorem dX9_copies_221 : decode cX9_copies 221 = .ok (.iinc 3 1, 3) := by decide +kernel
theorem dX9_copies_224 : decode cX9_copies 224 = .ok (.goto (-31), 3) := by decide +kernel
theorem dX9_copies_227 : decode cX9_copies 227 = .ok (.iconst 0, 1) := by decide +kernel
theorem dX9_copies_228 : decode cX9_copies 228 = .ok (.istore_n 3, 1) := by decide +kernel
theorem dX9_copies_229 : decode cX9_copies 229 = .ok (.iload_n 3, 1) := by decide +kernel
theorem dX9_copies_230 : decode cX9_copies 230 = .ok (.bipush 8, 2) := by decide +kernel
theorem dX9_copies_232 : decode cX9_copies 232 = .ok (.if_icmp .ge 53, 3) := by decide +kernel
theorem dX9_copies_235 : decode cX9_copies 235 = .ok (.aload_n 0, 1) := by decide +kernel
theorem dX9_copies_236 : decode cX9_copies 236 = .ok (.getfield 37, 3) := by decide +kernel
theorem dX9_copies_239 : decode cX9_copies 239 = .ok (.bipush 8, 2) := by decide +kernel
theorem dX9_copies_241 : decode cX9_copies 241 = .ok (.iload_n 2, 1) := by decide +kernel
theorem dX9_copies_242 : decode cX9_copies 242 = .ok (.imul, 1) := by decide +kernel
theorem dX9_copies_243 : decode cX9_copies 243 = .ok (.iload_n 3, 1) := by decide +kernel
theorem dX9_copies_244 : decode cX9_copies 244 = .ok (.iadd, 1) := by decide +kernel
theorem dX9_copies_245 : decode cX9_copies 245 = .ok (.aload_n 0, 1) := by decide +kernel
theorem dX9_copies_246 : decode cX9_copies 246 = .ok (.getfield 37, 3) := by decide +kernel
theorem dX9_copies_249 : decode cX9_copies 249 = .ok (.bipush 8, 2) := by decide +kernel
theorem dX9_copies_251 : decode cX9_copies 251 = .ok (.iload_n 1, 1) := by decide +kernel
theorem dX9_copies_252 : decode cX9_copies 252 = .ok (.imul, 1) := by decide +kernel
theorem dX9_copies_253 : decode cX9_copies 253 = .ok (.iload_n 3, 1) := by decide +kernel
theorem dX9_copies_254 : decode cX9_copies 254 = .ok (.iadd, 1) := by decide +kernel
theorem dX9_copies_255 : decode cX9_copies 255 = .ok (.iaload, 1) := by decide +kernel
theorem dX9_copies_256 : decode cX9_copies 256 = .ok (.iastore, 1) := by decide +kernel
theorem dX9_copies_257 : decode cX9_copies 257 = .ok (.aload_n 0, 1) := by decide +kernel
theorem dX9_copies_258 : decode cX9_copies 258 = .ok (.getfield 40, 3) := by decide +kernel
theorem dX9_copies_261 : decode cX9_copies 261 = .ok (.bipush 8, 2) := by decide +kernel
theorem dX9_copies_263 : decode cX9_copies 263 = .ok (.iload_n 2, 1) := by decide +kernel
theorem dX9_copies_264 : decode cX9_copies 264 = .ok (.imul, 1) := by decide +kernel
theorem dX9_copies_265 : decode cX9_copies 265 = .ok (.iload_n 3, 1) := by decide +kernel
theorem dX9_copies_266 : decode cX9_copies 266 = .ok (.iadd, 1) := by decide +kernel
theorem dX9_copies_267 : decode cX9_copies 267 = .ok (.aload_n 0, 1) := by decide +kernel
theorem dX9_copies_268 : decode cX9_copies 268 = .ok (.getfield 40, 3) := by decide +kernel
theorem dX9_copies_271 : decode cX9_copies 271 = .ok (.bipush 8, 2) := by decide +kernel
theorem dX9_copies_273 : decode cX9_copies 273 = .ok (.iload_n 1, 1) := by decide +kernel
theorem dX9_copies_274 : decode cX9_copies 274 = .ok (.imul, 1) := by decide +kernel
theorem dX9_copies_275 : decode cX9_copies 275 = .ok (.iload_n 3, 1) := by decide +kernel
theorem dX9_copies_276 : decode cX9_copies 276 = .ok (.iadd, 1) := by decide +kernel
theorem dX9_copies_277 : decode cX9_copies 277 = .ok (.iaload, 1) := by decide +kernel
theorem dX9_copies_278 : decode cX9_copies 278 = .ok (.iastore, 1) := by decide +kernel
theorem dX9_copies_279 : decode cX9_copies 279 = .ok (.iinc 3 1, 3) := by decide +kernel
theorem dX9_copies_282 : decode cX9_copies 282 = .ok (.goto (-53), 3) := by decide +kernel
theorem dX9_copies_285 : decode cX9_copies 285 = .ok (.iconst 0, 1) := by decide +kernel
theorem dX9_copies_286 : decode cX9_copies 286 = .ok (.istore_n 3, 1) := by decide +kernel
theorem dX9_copies_287 : decode cX9_copies 287 = .ok (.iload_n 3, 1) := by decide +kernel
theorem dX9_copies_288 : decode cX9_copies 288 = .ok (.bipush 48, 2) := by decide +kernel
theorem dX9_copies_290 : decode cX9_copies 290 = .ok (.if_icmp .ge 31, 3) := by decide +kernel
theorem dX9_copies_293 : decode cX9_copies 293 = .ok (.aload_n 0, 1) := by decide +kernel
theorem dX9_copies_294 : decode cX9_copies 294 = .ok (.getfield 43, 3) := by decide +kernel
theorem dX9_copies_297 : decode cX9_copies 297 = .ok (.bipush 48, 2) := by decide +kernel
theorem dX9_copies_299 : decode cX9_copies 299 = .ok (.iload_n 2, 1) := by decide +kernel
theorem dX9_copies_300 : decode cX9_copies 300 = .ok (.imul, 1) := by decide +kernel
theorem dX9_copies_301 : decode cX9_copies 301 = .ok (.iload_n 3, 1) := by decide +kernel
theorem dX9_copies_302 : decode cX9_copies 302 = .ok (.iadd, 1) := by decide +kernel
theorem dX9_copies_303 : decode cX9_copies 303 = .ok (.aload_n 0, 1) := by decide +kernel
theorem dX9_copies_304 : decode cX9_copies 304 = .ok (.getfield 43, 3) := by decide +kernel
theorem dX9_copies_307 : decode cX9_copies 307 = .ok (.bipush 48, 2) := by decide +kernel
theorem dX9_copies_309 : decode cX9_copies 309 = .ok (.iload_n 1, 1) := by decide +kernel
theorem dX9_copies_310 : decode cX9_copies 310 = .ok (.imul, 1) := by decide +kernel
theorem dX9_copies_311 : decode cX9_copies 311 = .ok (.iload_n 3, 1) := by decide +kernel
theorem dX9_copies_312 : decode cX9_copies 312 = .ok (.iadd, 1) := by decide +kernel
theorem dX9_copies_313 : decode cX9_copies 313 = .ok (.iaload, 1) := by decide +kernel
theorem dX9_copies_314 : decode cX9_copies 314 = .ok (.iastore, 1) := by decide +kernel
theorem dX9_copies_315 : decode cX9_copies 315 = .ok (.iinc 3 1, 3) := by decide +kernel
theorem dX9_copies_318 : decode cX9_copies 318 = .ok (.goto (-31), 3) := by decide +kernel
theorem dX9_copies_321 : decode cX9_copies 321 = .ok (.iconst 0, 1) := by decide +kernel
theorem dX9_copies_322 : decode cX9_copies 322 = .ok (.istore_n 3, 1) := by decide +kernel
theorem dX9_copies_323 : decode cX9_copies 323 = .ok (.iload_n 3, 1) := by decide +kernel
theorem dX9_copies_324 : decode cX9_copies 324 = .ok (.bipush 100, 2) := by decide +kernel
theorem dX9_copies_326 : decode cX9_copies 326 = .ok (.if_icmp .ge 31, 3) := by decide +kernel
theorem dX9_copies_329 : decode cX9_copies 329 = .ok (.aload_n 0, 1) := by decide +kernel
theorem dX9_copies_330 : decode cX9_copies 330 = .ok (.getfield 46, 3) := by decide +kernel
theorem dX9_copies_333 : decode cX9_copies 333 = .ok (.bipush 100, 2) := by decide +kernel
theorem dX9_copies_335 : decode cX9_copies 335 = .ok (.iload_n 2, 1) := by decide +kernel
theorem dX9_copies_336 : decode cX9_copies 336 = .ok (.imul, 1) := by decide +kernel
theorem dX9_copies_337 : decode cX9_copies 337 = .ok (.iload_n 3, 1) := by decide +kernel
theorem dX9_copies_338 : decode cX9_copies 338 = .ok (.iadd, 1) := by decide +kernel
theorem dX9_copies_339 : decode cX9_copies 339 = .ok (.aload_n 0, 1) := by decide +kernel
theorem dX9_copies_340 : decode cX9_copies 340 = .ok (.getfield 46, 3) := by decide +kernel
theorem dX9_copies_343 : decode cX9_copies 343 = .ok (.bipush 100, 2) := by decide +kernel
theorem dX9_copies_345 : decode cX9_copies 345 = .ok (.iload_n 1, 1) := by decide +kernel
theorem dX9_copies_346 : decode cX9_copies 346 = .ok (.imul, 1) := by decide +kernel
theorem dX9_copies_347 : decode cX9_copies 347 = .ok (.iload_n 3, 1) := by decide +kernel
theorem dX9_copies_348 : decode cX9_copies 348 = .ok (.iadd, 1) := by decide +kernel
theorem dX9_copies_349 : decode cX9_copies 349 = .ok (.iaload, 1) := by decide +kernel
theorem dX9_copies_350 : decode cX9_copies 350 = .ok (.iastore, 1) := by decide +kernel
theorem dX9_copies_351 : decode cX9_copies 351 = .ok (.iinc 3 1, 3) := by decide +kernel
theorem dX9_copies_354 : decode cX9_copies 354 = .ok (.goto (-31), 3) := by decide +kernel
theorem dX9_copies_357 : decode cX9_copies 357 = .ok (.return_, 1) := by decide +kernel
theorem dX9_changed_0 : decode cX9_changed 0 = .ok (.aload_n 0, 1) := by decide +kernel
theorem dX9_changed_1 : decode cX9_changed 1 = .ok (.getfield 121, 3) := by decide +kernel
theorem dX9_changed_4 : decode cX9_changed 4 = .ok (.bipush 20, 2) := by decide +kernel
theorem dX9_changed_6 : decode cX9_changed 6 = .ok (.if_icmp .ne 35, 3) := by decide +kernel
theorem dX9_changed_9 : decode cX9_changed 9 = .ok (.iconst 1, 1) := by decide +kernel
theorem dX9_changed_10 : decode cX9_changed 10 = .ok (.istore_n 1, 1) := by decide +kernel
theorem dX9_changed_11 : decode cX9_changed 11 = .ok (.iload_n 1, 1) := by decide +kernel
theorem dX9_changed_12 : decode cX9_changed 12 = .ok (.bipush 20, 2) := by decide +kernel
theorem dX9_changed_14 : decode cX9_changed 14 = .ok (.if_icmp .ge 17, 3) := by decide +kernel
theorem dX9_changed_17 : decode cX9_changed 17 = .ok (.aload_n 0, 1) := by decide +kernel
theorem dX9_changed_18 : decode cX9_changed 18 = .ok (.iload_n 1, 1) := by decide +kernel
theorem dX9_changed_19 : decode cX9_changed 19 = .ok (.iconst 1, 1) := by decide +kernel
theorem dX9_changed_20 : decode cX9_changed 20 = .ok (.iadd, 1) := by decide +kernel
theorem dX9_changed_21 : decode cX9_changed 21 = .ok (.iload_n 1, 1) := by decide +kernel
theorem dX9_changed_22 : decode cX9_changed 22 = .ok (.invokevirtual 124, 3) := by decide +kernel
theorem dX9_changed_25 : decode cX9_changed 25 = .ok (.iinc 1 1, 3) := by decide +kernel
theorem dX9_changed_28 : decode cX9_changed 28 = .ok (.goto (-17), 3) := by decide +kernel
theorem dX9_changed_31 : decode cX9_changed 31 = .ok (.aload_n 0, 1) := by decide +kernel
theorem dX9_changed_32 : decode cX9_changed 32 = .ok (.dup, 1) := by decide +kernel
theorem dX9_changed_33 : decode cX9_changed 33 = .ok (.getfield 121, 3) := by decide +kernel
theorem dX9_changed_36 : decode cX9_changed 36 = .ok (.iconst 1, 1) := by decide +kernel
theorem dX9_changed_37 : decode cX9_changed 37 = .ok (.isub, 1) := by decide +kernel
theorem dX9_changed_38 : decode cX9_changed 38 = .ok (.putfield 121, 3) := by decide +kernel
theorem dX9_changed_41 : decode cX9_changed 41 = .ok (.aload_n 0, 1) := by decide +kernel
theorem dX9_changed_42 : decode cX9_changed 42 = .ok (.dup, 1) := by decide +kernel
theorem dX9_changed_43 : decode cX9_changed 43 = .ok (.getfield 121, 3) := by decide +kernel
theorem dX9_changed_46 : decode cX9_changed 46 = .ok (.iconst 1, 1) := by decide +kernel
theorem dX9_changed_47 : decode cX9_changed 47 = .ok (.iadd, 1) := by decide +kernel
theorem dX9_changed_48 : decode cX9_changed 48 = .ok (.putfield 121, 3) := by decide +kernel
theorem dX9_changed_51 : decode cX9_changed 51 = .ok (.aload_n 0, 1) := by decide +kernel
theorem dX9_changed_52 : decode cX9_changed 52 = .ok (.bipush 21, 2) := by decide +kernel
theorem dX9_changed_54 : decode cX9_changed 54 = .ok (.aload_n 0, 1) := by decide +kernel
theorem dX9_changed_55 : decode cX9_changed 55 = .ok (.getfield 121, 3) := by decide +kernel
theorem dX9_changed_58 : decode cX9_changed 58 = .ok (.invokevirtual 124, 3) := by decide +kernel
theorem dX9_changed_61 : decode cX9_changed 61 = .ok (.return_, 1) := by decide +kernel
theorem dX9_part_0 : decode cX9_part 0 = .ok (.aload_n 0, 1) := by decide +kernel
theorem dX9_part_1 : decode cX9_part 1 = .ok (.getfield 7, 3) := by decide +kernel
theorem dX9_part_4 : decode cX9_part 4 = .ok (.iconst 0, 1) := by decide +kernel
theorem dX9_part_5 : decode cX9_part 5 = .ok (.iaload, 1) := by decide +kernel
theorem dX9_part_6 : decode cX9_part 6 = .ok (.bipush 10, 2) := by decide +kernel
theorem dX9_part_8 : decode cX9_part 8 = .ok (.if_icmp .ne 6, 3) := by decide +kernel
theorem dX9_part_11 : decode cX9_part 11 = .ok (.bipush (-4), 2) := by decide +kernel
theorem dX9_part_13 : decode cX9_part 13 = .ok (.ireturn, 1) := by decide +kernel
theorem dX9_part_14 : decode cX9_part 14 = .ok (.aload_n 0, 1) := by decide +kernel
theorem dX9_part_15 : decode cX9_part 15 = .ok (.iconst 0, 1) := by decide +kernel
theorem dX9_part_16 : decode cX9_part 16 = .ok (.bipush 21, 2) := by decide +kernel
theorem dX9_part_18 : decode cX9_part 18 = .ok (.invokevirtual 124, 3) := by decide +kernel
theorem dX9_part_21 : decode cX9_part 21 = .ok (.aload_n 0, 1) := by decide +kernel
theorem dX9_part_22 : decode cX9_part 22 = .ok (.getfield 7, 3) := by decide +kernel
theorem dX9_part_25 : decode cX9_part 25 = .ok (.iconst 0, 1) := by decide +kernel
theorem dX9_part_26 : decode cX9_part 26 = .ok (.dup2, 1) := by decide +kernel
theorem dX9_part_27 : decode cX9_part 27 = .ok (.iaload, 1) := by decide +kernel
theorem dX9_part_28 : decode cX9_part 28 = .ok (.iconst 1, 1) := by decide +kernel
theorem dX9_part_29 : decode cX9_part 29 = .ok (.iadd, 1) := by decide +kernel
theorem dX9_part_30 : decode cX9_part 30 = .ok (.iastore, 1) := by decide +kernel
theorem dX9_part_31 : decode cX9_part 31 = .ok (.aload_n 0, 1) := by decide +kernel
theorem dX9_part_32 : decode cX9_part 32 = .ok (.invokevirtual 128, 3) := by decide +kernel
theorem dX9_part_35 : decode cX9_part 35 = .ok (.aload_n 0, 1) := by decide +kernel
theorem dX9_part_36 : decode cX9_part 36 = .ok (.getfield 7, 3) := by decide +kernel
theorem dX9_part_39 : decode cX9_part 39 = .ok (.iconst 0, 1) := by decide +kernel
theorem dX9_part_40 : decode cX9_part 40 = .ok (.iaload, 1) := by decide +kernel
theorem dX9_part_41 : decode cX9_part 41 = .ok (.iconst 1, 1) := by decide +kernel
theorem dX9_part_42 : decode cX9_part 42 = .ok (.isub, 1) := by decide +kernel
theorem dX9_part_43 : decode cX9_part 43 = .ok (.ireturn, 1) := by decide +kernel
theorem dX9_add_0 : decode cX9_add 0 = .ok (.iload_n 1, 1) := by decide +kernel
theorem dX9_add_1 : decode cX9_add 1 = .ok (.iconst 0, 1) := by decide +kernel
theorem dX9_add_2 : decode cX9_add 2 = .ok (.iconst 2, 1) := by decide +kernel
theorem dX9_add_3 : decode cX9_add 3 = .ok (.invokestatic 117, 3) := by decide +kernel
theorem dX9_add_6 : decode cX9_add 6 = .ok (.ifCond .eq 11, 3) := by decide +kernel
theorem dX9_add_9 : decode cX9_add 9 = .ok (.aload_n 0, 1) := by decide +kernel
theorem dX9_add_10 : decode cX9_add 10 = .ok (.iload_n 2, 1) := by decide +kernel
theorem dX9_add_11 : decode cX9_add 11 = .ok (.invokevirtual 131, 3) := by decide +kernel
theorem dX9_add_14 : decode cX9_add 14 = .ok (.ifCond .ne 5, 3) := by decide +kernel
theorem dX9_add_17 : decode cX9_add 17 = .ok (.iconst (-1), 1) := by decide +kernel
theorem dX9_add_18 : decode cX9_add 18 = .ok (.ireturn, 1) := by decide +kernel
theorem dX9_add_19 : decode cX9_add 19 = .ok (.iload_n 1, 1) := by decide +kernel
theorem dX9_add_20 : decode cX9_add 20 = .ok (.ifCond .ne 12, 3) := by decide +kernel
theorem dX9_add_23 : decode cX9_add 23 = .ok (.aload_n 0, 1) := by decide +kernel
theorem dX9_add_24 : decode cX9_add 24 = .ok (.getfield 13, 3) := by decide +kernel
theorem dX9_add_27 : decode cX9_add 27 = .ok (.iconst 0, 1) := by decide +kernel
theorem dX9_add_28 : decode cX9_add 28 = .ok (.iaload, 1) := by decide +kernel
theorem dX9_add_29 : decode cX9_add 29 = .ok (.goto 23, 3) := by decide +kernel
theorem dX9_add_32 : decode cX9_add 32 = .ok (.iload_n 1, 1) := by decide +kernel
theorem dX9_add_33 : decode cX9_add 33 = .ok (.iconst 1, 1) := by decide +kernel
theorem dX9_add_34 : decode cX9_add 34 = .ok (.if_icmp .ne 12, 3) := by decide +kernel
theorem dX9_add_37 : decode cX9_add 37 = .ok (.aload_n 0, 1) := by decide +kernel
theorem dX9_add_38 : decode cX9_add 38 = .ok (.getfield 16, 3) := by decide +kernel
theorem dX9_add_41 : decode cX9_add 41 = .ok (.iconst 0, 1) := by decide +kernel
theorem dX9_add_42 : decode cX9_add 42 = .ok (.iaload, 1) := by decide +kernel
theorem dX9_add_43 : decode cX9_add 43 = .ok (.goto 9, 3) := by decide +kernel
theorem dX9_add_46 : decode cX9_add 46 = .ok (.aload_n 0, 1) := by decide +kernel
theorem dX9_add_47 : decode cX9_add 47 = .ok (.getfield 19, 3) := by decide +kernel
theorem dX9_add_50 : decode cX9_add 50 = .ok (.iconst 0, 1) := by decide +kernel
theorem dX9_add_51 : decode cX9_add 51 = .ok (.iaload, 1) := by decide +kernel
theorem dX9_add_52 : decode cX9_add 52 = .ok (.istore_n 3, 1) := by decide +kernel
theorem dX9_add_53 : decode cX9_add 53 = .ok (.iload_n 3, 1) := by decide +kernel
theorem dX9_add_54 : decode cX9_add 54 = .ok (.iload_n 1, 1) := by decide +kernel
theorem dX9_add_55 : decode cX9_add 55 = .ok (.ifCond .ne 8, 3) := by decide +kernel
theorem dX9_add_58 : decode cX9_add 58 = .ok (.bipush 20, 2) := by decide +kernel
theorem dX9_add_60 : decode cX9_add 60 = .ok (.goto 15, 3) := by decide +kernel
theorem dX9_add_63 : decode cX9_add 63 = .ok (.iload_n 1, 1) := by decide +kernel
theorem dX9_add_64 : decode cX9_add 64 = .ok (.iconst 1, 1) := by decide +kernel
theorem dX9_add_65 : decode cX9_add 65 = .ok (.if_icmp .ne 8, 3) := by decide +kernel
theorem dX9_add_68 : decode cX9_add 68 = .ok (.bipush 10, 2) := by decide +kernel
theorem dX9_add_70 : decode cX9_add 70 = .ok (.goto 5, 3) := by decide +kernel
theorem dX9_add_73 : decode cX9_add 73 = .ok (.bipush 8, 2) := by decide +kernel
theorem dX9_add_75 : decode cX9_add 75 = .ok (.if_icmp .ne 6, 3) := by decide +kernel
theorem dX9_add_78 : decode cX9_add 78 = .ok (.bipush (-4), 2) := by decide +kernel
theorem dX9_add_80 : decode cX9_add 80 = .ok (.ireturn, 1) := by decide +kernel
theorem dX9_add_81 : decode cX9_add 81 = .ok (.aload_n 0, 1) := by decide +kernel
theorem dX9_add_82 : decode cX9_add 82 = .ok (.iconst 0, 1) := by decide +kernel
theorem dX9_add_83 : decode cX9_add 83 = .ok (.bipush 21, 2) := by decide +kernel
theorem dX9_add_85 : decode cX9_add 85 = .ok (.invokevirtual 124, 3) := by decide +kernel
theorem dX9_add_88 : decode cX9_add 88 = .ok (.aload_n 0, 1) := by decide +kernel
theorem dX9_add_89 : decode cX9_add 89 = .ok (.iload_n 1, 1) := by decide +kernel
theorem dX9_add_90 : decode cX9_add 90 = .ok (.iload_n 2, 1) := by decide +kernel
theorem dX9_add_91 : decode cX9_add 91 = .ok (.invokevirtual 135, 3) := by decide +kernel
theorem dX9_add_94 : decode cX9_add 94 = .ok (.aload_n 0, 1) := by decide +kernel
theorem dX9_add_95 : decode cX9_add 95 = .ok (.invokevirtual 128, 3) := by decide +kernel
theorem dX9_add_98 : decode cX9_add 98 = .ok (.iload_n 3, 1) := by decide +kernel
theorem dX9_add_99 : decode cX9_add 99 = .ok (.ireturn, 1) := by decide +kernel
theorem dX9_adds_0 : decode cX9_adds 0 = .ok (.iload_n 1, 1) := by decide +kernel
theorem dX9_adds_1 : decode cX9_adds 1 = .ok (.ifCond .ne 52, 3) := by decide +kernel
theorem dX9_adds_4 : decode cX9_adds 4 = .ok (.aload_n 0, 1) := by decide +kernel
theorem dX9_adds_5 : decode cX9_adds 5 = .ok (.getfield 22, 3) := by decide +kernel
theorem dX9_adds_8 : decode cX9_adds 8 = .ok (.aload_n 0, 1) := by decide +kernel
theorem dX9_adds_9 : decode cX9_adds 9 = .ok (.getfield 13, 3) := by decide +kernel
theorem dX9_adds_12 : decode cX9_adds 12 = .ok (.iconst 0, 1) := by decide +kernel
theorem dX9_adds_13 : decode cX9_adds 13 = .ok (.iaload, 1) := by decide +kernel
theorem dX9_adds_14 : decode cX9_adds 14 = .ok (.iload_n 2, 1) := by decide +kernel
theorem dX9_adds_15 : decode cX9_adds 15 = .ok (.iastore, 1) := by decide +kernel
theorem dX9_adds_16 : decode cX9_adds 16 = .ok (.aload_n 0, 1) := by decide +kernel
theorem dX9_adds_17 : decode cX9_adds 17 = .ok (.getfield 25, 3) := by decide +kernel
theorem dX9_adds_20 : decode cX9_adds 20 = .ok (.aload_n 0, 1) := by decide +kernel
theorem dX9_adds_21 : decode cX9_adds 21 = .ok (.getfield 13, 3) := by decide +kernel
theorem dX9_adds_24 : decode cX9_adds 24 = .ok (.iconst 0, 1) := by decide +kernel
theorem dX9_adds_25 : decode cX9_adds 25 = .ok (.iaload, 1) := by decide +kernel
theorem dX9_adds_26 : decode cX9_adds 26 = .ok (.iconst 0, 1) := by decide +kernel
theorem dX9_adds_27 : decode cX9_adds 27 = .ok (.iastore, 1) := by decide +kernel
theorem dX9_adds_28 : decode cX9_adds 28 = .ok (.aload_n 0, 1) := by decide +kernel
theorem dX9_adds_29 : decode cX9_adds 29 = .ok (.getfield 49, 3) := by decide +kernel
theorem dX9_adds_32 : decode cX9_adds 32 = .ok (.aload_n 0, 1) := by decide +kernel
theorem dX9_adds_33 : decode cX9_adds 33 = .ok (.getfield 13, 3) := by decide +kernel
theorem dX9_adds_36 : decode cX9_adds 36 = .ok (.iconst 0, 1) := by decide +kernel
theorem dX9_adds_37 : decode cX9_adds 37 = .ok (.iaload, 1) := by decide +kernel
theorem dX9_adds_38 : decode cX9_adds 38 = .ok (.iconst 0, 1) := by decide +kernel
theorem dX9_adds_39 : decode cX9_adds 39 = .ok (.bastore, 1) := by decide +kernel
theorem dX9_adds_40 : decode cX9_adds 40 = .ok (.aload_n 0, 1) := by decide +kernel
theorem dX9_adds_41 : decode cX9_adds 41 = .ok (.getfield 13, 3) := by decide +kernel
theorem dX9_adds_44 : decode cX9_adds 44 = .ok (.iconst 0, 1) := by decide +kernel
theorem dX9_adds_45 : decode cX9_adds 45 = .ok (.dup2, 1) := by decide +kernel
theorem dX9_adds_46 : decode cX9_adds 46 = .ok (.iaload, 1) := by decide +kernel
theorem dX9_adds_47 : decode cX9_adds 47 = .ok (.iconst 1, 1) := by decide +kernel
theorem dX9_adds_48 : decode cX9_adds 48 = .ok (.iadd, 1) := by decide +kernel
theorem dX9_adds_49 : decode cX9_adds 49 = .ok (.iastore, 1) := by decide +kernel
theorem dX9_adds_50 : decode cX9_adds 50 = .ok (.goto 67, 3) := by decide +kernel
theorem dX9_adds_53 : decode cX9_adds 53 = .ok (.iload_n 1, 1) := by decide +kernel
theorem dX9_adds_54 : decode cX9_adds 54 = .ok (.iconst 1, 1) := by decide +kernel
theorem dX9_adds_55 : decode cX9_adds 55 = .ok (.if_icmp .ne 28, 3) := by decide +kernel
theorem dX9_adds_58 : decode cX9_adds 58 = .ok (.aload_n 0, 1) := by decide +kernel
theorem dX9_adds_59 : decode cX9_adds 59 = .ok (.getfield 34, 3) := by decide +kernel
theorem dX9_adds_62 : decode cX9_adds 62 = .ok (.aload_n 0, 1) := by decide +kernel
theorem dX9_adds_63 : decode cX9_adds 63 = .ok (.getfield 16, 3) := by decide +kernel
theorem dX9_adds_66 : decode cX9_adds 66 = .ok (.iconst 0, 1) := by decide +kernel
theorem dX9_adds_67 : decode cX9_adds 67 = .ok (.iaload, 1) := by decide +kernel
theorem dX9_adds_68 : decode cX9_adds 68 = .ok (.iload_n 2, 1) := by decide +kernel
theorem dX9_adds_69 : decode cX9_adds 69 = .ok (.iastore, 1) := by decide +kernel
theorem dX9_adds_70 : decode cX9_adds 70 = .ok (.aload_n 0, 1) := by decide +kernel
theorem dX9_adds_71 : decode cX9_adds 71 = .ok (.getfield 16, 3) := by decide +kernel
theorem dX9_adds_74 : decode cX9_adds 74 = .ok (.iconst 0, 1) := by decide +kernel
theorem dX9_adds_75 : decode cX9_adds 75 = .ok (.dup2, 1) := by decide +kernel
theorem dX9_adds_76 : decode cX9_adds 76 = .ok (.iaload, 1) := by decide +kernel
theorem dX9_adds_77 : decode cX9_adds 77 = .ok (.iconst 1, 1) := by decide +kernel
theorem dX9_adds_78 : decode cX9_adds 78 = .ok (.iadd, 1) := by decide +kernel
theorem dX9_adds_79 : decode cX9_adds 79 = .ok (.iastore, 1) := by decide +kernel
theorem dX9_adds_80 : decode cX9_adds 80 = .ok (.goto 37, 3) := by decide +kernel
theorem dX9_adds_83 : decode cX9_adds 83 = .ok (.aload_n 0, 1) := by decide +kernel
theorem dX9_adds_84 : decode cX9_adds 84 = .ok (.getfield 37, 3) := by decide +kernel
theorem dX9_adds_87 : decode cX9_adds 87 = .ok (.aload_n 0, 1) := by decide +kernel
theorem dX9_adds_88 : decode cX9_adds 88 = .ok (.getfield 19, 3) := by decide +kernel
theorem dX9_adds_91 : decode cX9_adds 91 = .ok (.iconst 0, 1) := by decide +kernel
theorem dX9_adds_92 : decode cX9_adds 92 = .ok (.iaload, 1) := by decide +kernel
theorem dX9_adds_93 : decode cX9_adds 93 = .ok (.iload_n 2, 1) := by decide +kernel
theorem dX9_adds_94 : decode cX9_adds 94 = .ok (.iastore, 1) := by decide +kernel
theorem dX9_adds_95 : decode cX9_adds 95 = .ok (.aload_n 0, 1) := by decide +kernel
theorem dX9_adds_96 : decode cX9_adds 96 = .ok (.getfield 40, 3) := by decide +kernel
theorem dX9_adds_99 : decode cX9_adds 99 = .ok (.aload_n 0, 1) := by decide +kernel
theorem dX9_adds_100 : decode cX9_adds 100 = .ok (.getfield 19, 3) := by decide +kernel
theorem dX9_adds_103 : decode cX9_adds 103 = .ok (.iconst 0, 1) := by decide +kernel
theorem dX9_adds_104 : decode cX9_adds 104 = .ok (.iaload, 1) := by decide +kernel
theorem dX9_adds_105 : decode cX9_adds 105 = .ok (.iconst 0, 1) := by decide +kernel
theorem dX9_adds_106 : decode cX9_adds 106 = .ok (.iastore, 1) := by decide +kernel
theorem dX9_adds_107 : decode cX9_adds 107 = .ok (.aload_n 0, 1) := by decide +kernel
theorem dX9_adds_108 : decode cX9_adds 108 = .ok (.getfield 19, 3) := by decide +kernel
theorem dX9_adds_111 : decode cX9_adds 111 = .ok (.iconst 0, 1) := by decide +kernel
theorem dX9_adds_112 : decode cX9_adds 112 = .ok (.dup2, 1) := by decide +kernel
theorem dX9_adds_113 : decode cX9_adds 113 = .ok (.iaload, 1) := by decide +kernel
theorem dX9_adds_114 : decode cX9_adds 114 = .ok (.iconst 1, 1) := by decide +kernel
theorem dX9_adds_115 : decode cX9_adds 115 = .ok (.iadd, 1) := by decide +kernel
theorem dX9_adds_116 : decode cX9_adds 116 = .ok (.iastore, 1) := by decide +kernel
theorem dX9_adds_117 : decode cX9_adds 117 = .ok (.return_, 1) := by decide +kernel
theorem dX9_isThere_0 : decode cX9_isThere 0 = .ok (.iload_n 1, 1) := by decide +kernel
theorem dX9_isThere_1 : decode cX9_isThere 1 = .ok (.iconst 0, 1) := by decide +kernel
theorem dX9_isThere_2 : decode cX9_isThere 2 = .ok (.iconst 2, 1) := by decide +kernel
theorem dX9_isThere_3 : decode cX9_isThere 3 = .ok (.invokestatic 117, 3) := by decide +kernel
theorem dX9_isThere_6 : decode cX9_isThere 6 = .ok (.ifCond .eq 50, 3) := by decide +kernel
theorem dX9_isThere_9 : decode cX9_isThere 9 = .ok (.iload_n 2, 1) := by decide +kernel
theorem dX9_isThere_10 : decode cX9_isThere 10 = .ok (.iconst 0, 1) := by decide +kernel
theorem dX9_isThere_11 : decode cX9_isThere 11 = .ok (.iload_n 1, 1) := by decide +kernel
theorem dX9_isThere_12 : decode cX9_isThere 12 = .ok (.ifCond .ne 12, 3) := by decide +kernel
theorem dX9_isThere_15 : decode cX9_isThere 15 = .ok (.aload_n 0, 1) := by decide +kernel
theorem dX9_isThere_16 : decode cX9_isThere 16 = .ok (.getfield 13, 3) := by decide +kernel
theorem dX9_isThere_19 : decode cX9_isThere 19 = .ok (.iconst 0, 1) := by decide +kernel
theorem dX9_isThere_20 : decode cX9_isThere 20 = .ok (.iaload, 1) := by decide +kernel
theorem dX9_isThere_21 : decode cX9_isThere 21 = .ok (.goto 23, 3) := by decide +kernel
theorem dX9_isThere_24 : decode cX9_isThere 24 = .ok (.iload_n 1, 1) := by decide +kernel
theorem dX9_isThere_25 : decode cX9_isThere 25 = .ok (.iconst 1, 1) := by decide +kernel
theorem dX9_isThere_26 : decode cX9_isThere 26 = .ok (.if_icmp .ne 12, 3) := by decide +kernel
theorem dX9_isThere_29 : decode cX9_isThere 29 = .ok (.aload_n 0, 1) := by decide +kernel
theorem dX9_isThere_30 : decode cX9_isThere 30 = .ok (.getfield 16, 3) := by decide +kernel
theorem dX9_isThere_33 : decode cX9_isThere 33 = .ok (.iconst 0, 1) := by decide +kernel
theorem dX9_isThere_34 : decode cX9_isThere 34 = .ok (.iaload, 1) := by decide +kernel
theorem dX9_isThere_35 : decode cX9_isThere 35 = .ok (.goto 9, 3) := by decide +kernel
theorem dX9_isThere_38 : decode cX9_isThere 38 = .ok (.aload_n 0, 1) := by decide +kernel
theorem dX9_isThere_39 : decode cX9_isThere 39 = .ok (.getfield 19, 3) := by decide +kernel
theorem dX9_isThere_42 : decode cX9_isThere 42 = .ok (.iconst 0, 1) := by decide +kernel
theorem dX9_isThere_43 : decode cX9_isThere 43 = .ok (.iaload, 1) := by decide +kernel
theorem dX9_isThere_44 : decode cX9_isThere 44 = .ok (.iconst 1, 1) := by decide +kernel
theorem dX9_isThere_45 : decode cX9_isThere 45 = .ok (.isub, 1) := by decide +kernel
theorem dX9_isThere_46 : decode cX9_isThere 46 = .ok (.invokestatic 117, 3) := by decide +kernel
theorem dX9_isThere_49 : decode cX9_isThere 49 = .ok (.ifCond .eq 7, 3) := by decide +kernel
theorem dX9_isThere_52 : decode cX9_isThere 52 = .ok (.iconst 1, 1) := by decide +kernel
theorem dX9_isThere_53 : decode cX9_isThere 53 = .ok (.goto 4, 3) := by decide +kernel
theorem dX9_isThere_56 : decode cX9_isThere 56 = .ok (.iconst 0, 1) := by decide +kernel
theorem dX9_isThere_57 : decode cX9_isThere 57 = .ok (.ireturn, 1) := by decide +kernel
theorem dX9_lies_0 : decode cX9_lies 0 = .ok (.iload_n 1, 1) := by decide +kernel
theorem dX9_lies_1 : decode cX9_lies 1 = .ok (.ifCond .ne 12, 3) := by decide +kernel
theorem dX9_lies_4 : decode cX9_lies 4 = .ok (.aload_n 0, 1) := by decide +kernel
theorem dX9_lies_5 : decode cX9_lies 5 = .ok (.getfield 22, 3) := by decide +kernel
theorem dX9_lies_8 : decode cX9_lies 8 = .ok (.iload_n 2, 1) := by decide +kernel
theorem dX9_lies_9 : decode cX9_lies 9 = .ok (.iaload, 1) := by decide +kernel
theorem dX9_lies_10 : decode cX9_lies 10 = .ok (.goto 23, 3) := by decide +kernel
theorem dX9_lies_13 : decode cX9_lies 13 = .ok (.iload_n 1, 1) := by decide +kernel
theorem dX9_lies_14 : decode cX9_lies 14 = .ok (.iconst 1, 1) := by decide +kernel
theorem dX9_lies_15 : decode cX9_lies 15 = .ok (.if_icmp .ne 12, 3) := by decide +kernel
theorem dX9_lies_18 : decode cX9_lies 18 = .ok (.aload_n 0, 1) := by decide +kernel
theorem dX9_lies_19 : decode cX9_lies 19 = .ok (.getfield 34, 3) := by decide +kernel
theorem dX9_lies_22 : decode cX9_lies 22 = .ok (.iload_n 2, 1) := by decide +kernel
theorem dX9_lies_23 : decode cX9_lies 23 = .ok (.iaload, 1) := by decide +kernel
theorem dX9_lies_24 : decode cX9_lies 24 = .ok (.goto 9, 3) := by decide +kernel
theorem dX9_lies_27 : decode cX9_lies 27 = .ok (.aload_n 0, 1) := by decide +kernel
theorem dX9_lies_28 : decode cX9_lies 28 = .ok (.getfield 37, 3) := by decide +kernel
theorem dX9_lies_31 : decode cX9_lies 31 = .ok (.iload_n 2, 1) := by decide +kernel
theorem dX9_lies_32 : decode cX9_lies 32 = .ok (.iaload, 1) := by decide +kernel
theorem dX9_lies_33 : decode cX9_lies 33 = .ok (.ireturn, 1) := by decide +kernel
theorem dX9_where_0 : decode cX9_where 0 = .ok (.aload_n 0, 1) := by decide +kernel
theorem dX9_where_1 : decode cX9_where 1 = .ok (.iload_n 1, 1) := by decide +kernel
theorem dX9_where_2 : decode cX9_where 2 = .ok (.iload_n 2, 1) := by decide +kernel
theorem dX9_where_3 : decode cX9_where 3 = .ok (.invokevirtual 138, 3) := by decide +kernel
theorem dX9_where_6 : decode cX9_where 6 = .ok (.ifCond .eq 12, 3) := by decide +kernel
theorem dX9_where_9 : decode cX9_where 9 = .ok (.aload_n 0, 1) := by decide +kernel
theorem dX9_where_10 : decode cX9_where 10 = .ok (.iload_n 1, 1) := by decide +kernel
theorem dX9_where_11 : decode cX9_where 11 = .ok (.iload_n 2, 1) := by decide +kernel
theorem dX9_where_12 : decode cX9_where 12 = .ok (.invokevirtual 142, 3) := by decide +kernel
theorem dX9_where_15 : decode cX9_where 15 = .ok (.goto 4, 3) := by decide +kernel
theorem dX9_where_18 : decode cX9_where 18 = .ok (.iconst (-1), 1) := by decide +kernel
theorem dX9_where_19 : decode cX9_where 19 = .ok (.ireturn, 1) := by decide +kernel
theorem dX9_feed_0 : decode cX9_feed 0 = .ok (.iload_n 3, 1) := by decide +kernel
theorem dX9_feed_1 : decode cX9_feed 1 = .ok (.iconst 1, 1) := by decide +kernel
theorem dX9_feed_2 : decode cX9_feed 2 = .ok (.bipush 8, 2) := by decide +kernel
theorem dX9_feed_4 : decode cX9_feed 4 = .ok (.invokestatic 117, 3) := by decide +kernel
theorem dX9_feed_7 : decode cX9_feed 7 = .ok (.ifCond .ne 6, 3) := by decide +kernel
theorem dX9_feed_10 : decode cX9_feed 10 = .ok (.bipush (-2), 2) := by decide +kernel
theorem dX9_feed_12 : decode cX9_feed 12 = .ok (.ireturn, 1) := by decide +kernel
theorem dX9_feed_13 : decode cX9_feed 13 = .ok (.aload_n 0, 1) := by decide +kernel
theorem dX9_feed_14 : decode cX9_feed 14 = .ok (.getfield 146, 3) := by decide +kernel
theorem dX9_feed_17 : decode cX9_feed 17 = .ok (.iload_n 3, 1) := by decide +kernel
theorem dX9_feed_18 : decode cX9_feed 18 = .ok (.iadd, 1) := by decide +kernel
theorem dX9_feed_19 : decode cX9_feed 19 = .ok (.bipush 120, 2) := by decide +kernel
theorem dX9_feed_21 : decode cX9_feed 21 = .ok (.if_icmp .le 6, 3) := by decide +kernel
theorem dX9_feed_24 : decode cX9_feed 24 = .ok (.bipush (-4), 2) := by decide +kernel
theorem dX9_feed_26 : decode cX9_feed 26 = .ok (.ireturn, 1) := by decide +kernel
theorem dX9_feed_27 : decode cX9_feed 27 = .ok (.iload_n 3, 1) := by decide +kernel
theorem dX9_feed_28 : decode cX9_feed 28 = .ok (.iconst 1, 1) := by decide +kernel
theorem dX9_feed_29 : decode cX9_feed 29 = .ok (.isub, 1) := by decide +kernel
theorem dX9_feed_30 : decode cX9_feed 30 = .ok (.istore 4, 2) := by decide +kernel
theorem dX9_feed_32 : decode cX9_feed 32 = .ok (.iload 4, 2) := by decide +kernel
theorem dX9_feed_34 : decode cX9_feed 34 = .ok (.ifCond .lt 40, 3) := by decide +kernel
theorem dX9_feed_37 : decode cX9_feed 37 = .ok (.aload_n 0, 1) := by decide +kernel
theorem dX9_feed_38 : decode cX9_feed 38 = .ok (.getfield 53, 3) := by decide +kernel
theorem dX9_feed_41 : decode cX9_feed 41 = .ok (.aload_n 0, 1) := by decide +kernel
theorem dX9_feed_42 : decode cX9_feed 42 = .ok (.getfield 146, 3) := by decide +kernel
theorem dX9_feed_45 : decode cX9_feed 45 = .ok (.lload_n 1, 1) := by decide +kernel
theorem dX9_feed_46 : decode cX9_feed 46 = .ok (.bipush 8, 2) := by decide +kernel
theorem dX9_feed_48 : decode cX9_feed 48 = .ok (.iload 4, 2) := by decide +kernel
theorem dX9_feed_50 : decode cX9_feed 50 = .ok (.imul, 1) := by decide +kernel
theorem dX9_feed_51 : decode cX9_feed 51 = .ok (.lshr, 1) := by decide +kernel
theorem dX9_feed_52 : decode cX9_feed 52 = .ok (.ldc2_w 149, 3) := by decide +kernel
theorem dX9_feed_55 : decode cX9_feed 55 = .ok (.land, 1) := by decide +kernel
theorem dX9_feed_56 : decode cX9_feed 56 = .ok (.l2i, 1) := by decide +kernel
theorem dX9_feed_57 : decode cX9_feed 57 = .ok (.iastore, 1) := by decide +kernel
theorem dX9_feed_58 : decode cX9_feed 58 = .ok (.aload_n 0, 1) := by decide +kernel
theorem dX9_feed_59 : decode cX9_feed 59 = .ok (.dup, 1) := by decide +kernel
theorem dX9_feed_60 : decode cX9_feed 60 = .ok (.getfield 146, 3) := by decide +kernel
theorem dX9_feed_63 : decode cX9_feed 63 = .ok (.iconst 1, 1) := by decide +kernel
theorem dX9_feed_64 : decode cX9_feed 64 = .ok (.iadd, 1) := by decide +kernel
theorem dX9_feed_65 : decode cX9_feed 65 = .ok (.putfield 146, 3) := by decide +kernel
theorem dX9_feed_68 : decode cX9_feed 68 = .ok (.iinc 4 (-1), 3) := by decide +kernel
theorem dX9_feed_71 : decode cX9_feed 71 = .ok (.goto (-39), 3) := by decide +kernel
theorem dX9_feed_74 : decode cX9_feed 74 = .ok (.aload_n 0, 1) := by decide +kernel
theorem dX9_feed_75 : decode cX9_feed 75 = .ok (.getfield 146, 3) := by decide +kernel
theorem dX9_feed_78 : decode cX9_feed 78 = .ok (.ireturn, 1) := by decide +kernel
theorem dX9_byteAt_0 : decode cX9_byteAt 0 = .ok (.iload_n 1, 1) := by decide +kernel
theorem dX9_byteAt_1 : decode cX9_byteAt 1 = .ok (.aload_n 0, 1) := by decide +kernel
theorem dX9_byteAt_2 : decode cX9_byteAt 2 = .ok (.getfield 146, 3) := by decide +kernel
theorem dX9_byteAt_5 : decode cX9_byteAt 5 = .ok (.if_icmp .ge 12, 3) := by decide +kernel
theorem dX9_byteAt_8 : decode cX9_byteAt 8 = .ok (.aload_n 0, 1) := by decide +kernel
theorem dX9_byteAt_9 : decode cX9_byteAt 9 = .ok (.getfield 53, 3) := by decide +kernel
theorem dX9_byteAt_12 : decode cX9_byteAt 12 = .ok (.iload_n 1, 1) := by decide +kernel
theorem dX9_byteAt_13 : decode cX9_byteAt 13 = .ok (.iaload, 1) := by decide +kernel
theorem dX9_byteAt_14 : decode cX9_byteAt 14 = .ok (.goto 4, 3) := by decide +kernel
theorem dX9_byteAt_17 : decode cX9_byteAt 17 = .ok (.iconst (-1), 1) := by decide +kernel
theorem dX9_byteAt_18 : decode cX9_byteAt 18 = .ok (.ireturn, 1) := by decide +kernel
theorem dX9_must_0 : decode cX9_must 0 = .ok (.aload_n 0, 1) := by decide +kernel
theorem dX9_must_1 : decode cX9_must 1 = .ok (.aload_n 0, 1) := by decide +kernel
theorem dX9_must_2 : decode cX9_must 2 = .ok (.getfield 151, 3) := by decide +kernel
theorem dX9_must_5 : decode cX9_must 5 = .ok (.ifCond .ne 15, 3) := by decide +kernel
theorem dX9_must_8 : decode cX9_must 8 = .ok (.aload_n 0, 1) := by decide +kernel
theorem dX9_must_9 : decode cX9_must 9 = .ok (.aload_n 0, 1) := by decide +kernel
theorem dX9_must_10 : decode cX9_must 10 = .ok (.getfield 155, 3) := by decide +kernel
theorem dX9_must_13 : decode cX9_must 13 = .ok (.invokevirtual 158, 3) := by decide +kernel
theorem dX9_must_16 : decode cX9_must 16 = .ok (.iload_n 1, 1) := by decide +kernel
theorem dX9_must_17 : decode cX9_must 17 = .ok (.if_icmp .eq 7, 3) := by decide +kernel
theorem dX9_must_20 : decode cX9_must 20 = .ok (.iconst 1, 1) := by decide +kernel
theorem dX9_must_21 : decode cX9_must 21 = .ok (.goto 4, 3) := by decide +kernel
theorem dX9_must_24 : decode cX9_must 24 = .ok (.iconst 0, 1) := by decide +kernel
theorem dX9_must_25 : decode cX9_must 25 = .ok (.putfield 151, 3) := by decide +kernel
theorem dX9_must_28 : decode cX9_must 28 = .ok (.aload_n 0, 1) := by decide +kernel
theorem dX9_must_29 : decode cX9_must 29 = .ok (.dup, 1) := by decide +kernel
theorem dX9_must_30 : decode cX9_must 30 = .ok (.getfield 155, 3) := by decide +kernel
theorem dX9_must_33 : decode cX9_must 33 = .ok (.aload_n 0, 1) := by decide +kernel
theorem dX9_must_34 : decode cX9_must 34 = .ok (.getfield 151, 3) := by decide +kernel
theorem dX9_must_37 : decode cX9_must 37 = .ok (.ifCond .eq 7, 3) := by decide +kernel
theorem dX9_must_40 : decode cX9_must 40 = .ok (.iconst 0, 1) := by decide +kernel
theorem dX9_must_41 : decode cX9_must 41 = .ok (.goto 4, 3) := by decide +kernel
theorem dX9_must_44 : decode cX9_must 44 = .ok (.iconst 1, 1) := by decide +kernel
theorem dX9_must_45 : decode cX9_must 45 = .ok (.iadd, 1) := by decide +kernel
theorem dX9_must_46 : decode cX9_must 46 = .ok (.putfield 155, 3) := by decide +kernel
theorem dX9_must_49 : decode cX9_must 49 = .ok (.return_, 1) := by decide +kernel
theorem dX9_readsAct_0 : decode cX9_readsAct 0 = .ok (.iconst 0, 1) := by decide +kernel
theorem dX9_readsAct_1 : decode cX9_readsAct 1 = .ok (.istore_n 1, 1) := by decide +kernel
theorem dX9_readsAct_2 : decode cX9_readsAct 2 = .ok (.iload_n 1, 1) := by decide +kernel
theorem dX9_readsAct_3 : decode cX9_readsAct 3 = .ok (.bipush 7, 2) := by decide +kernel
theorem dX9_readsAct_5 : decode cX9_readsAct 5 = .ok (.if_icmp .ge 28, 3) := by decide +kernel
theorem dX9_readsAct_8 : decode cX9_readsAct 8 = .ok (.aload_n 0, 1) := by decide +kernel
theorem dX9_readsAct_9 : decode cX9_readsAct 9 = .ok (.aload_n 0, 1) := by decide +kernel
theorem dX9_readsAct_10 : decode cX9_readsAct 10 = .ok (.getfield 155, 3) := by decide +kernel
theorem dX9_readsAct_13 : decode cX9_readsAct 13 = .ok (.invokevirtual 158, 3) := by decide +kernel
theorem dX9_readsAct_16 : decode cX9_readsAct 16 = .ok (.aload_n 0, 1) := by decide +kernel
theorem dX9_readsAct_17 : decode cX9_readsAct 17 = .ok (.getfield 69, 3) := by decide +kernel
theorem dX9_readsAct_20 : decode cX9_readsAct 20 = .ok (.iconst 4, 1) := by decide +kernel
theorem dX9_readsAct_21 : decode cX9_readsAct 21 = .ok (.iload_n 1, 1) := by decide +kernel
theorem dX9_readsAct_22 : decode cX9_readsAct 22 = .ok (.imul, 1) := by decide +kernel
theorem dX9_readsAct_23 : decode cX9_readsAct 23 = .ok (.iaload, 1) := by decide +kernel
theorem dX9_readsAct_24 : decode cX9_readsAct 24 = .ok (.if_icmp .eq 9, 3) := by decide +kernel
theorem dX9_readsAct_27 : decode cX9_readsAct 27 = .ok (.iinc 1 1, 3) := by decide +kernel
theorem dX9_readsAct_30 : decode cX9_readsAct 30 = .ok (.goto (-28), 3) := by decide +kernel
theorem dX9_readsAct_33 : decode cX9_readsAct 33 = .ok (.aload_n 0, 1) := by decide +kernel
theorem dX9_readsAct_34 : decode cX9_readsAct 34 = .ok (.aload_n 0, 1) := by decide +kernel
theorem dX9_readsAct_35 : decode cX9_readsAct 35 = .ok (.getfield 151, 3) := by decide +kernel
theorem dX9_readsAct_38 : decode cX9_readsAct 38 = .ok (.ifCond .ne 9, 3) := by decide +kernel
theorem dX9_readsAct_41 : decode cX9_readsAct 41 = .ok (.iload_n 1, 1) := by decide +kernel
theorem dX9_readsAct_42 : decode cX9_readsAct 42 = .ok (.bipush 7, 2) := by decide +kernel
theorem dX9_readsAct_44 : decode cX9_readsAct 44 = .ok (.if_icmp .ne 7, 3) := by decide +kernel
theorem dX9_readsAct_47 : decode cX9_readsAct 47 = .ok (.iconst 1, 1) := by decide +kernel
theorem dX9_readsAct_48 : decode cX9_readsAct 48 = .ok (.goto 4, 3) := by decide +kernel
theorem dX9_readsAct_51 : decode cX9_readsAct 51 = .ok (.iconst 0, 1) := by decide +kernel
theorem dX9_readsAct_52 : decode cX9_readsAct 52 = .ok (.putfield 151, 3) := by decide +kernel
theorem dX9_readsAct_55 : decode cX9_readsAct 55 = .ok (.iconst 0, 1) := by decide +kernel
theorem dX9_readsAct_56 : decode cX9_readsAct 56 = .ok (.istore_n 2, 1) := by decide +kernel
theorem dX9_readsAct_57 : decode cX9_readsAct 57 = .ok (.iload_n 2, 1) := by decide +kernel
theorem dX9_readsAct_58 : decode cX9_readsAct 58 = .ok (.iconst 4, 1) := by decide +kernel
theorem dX9_readsAct_59 : decode cX9_readsAct 59 = .ok (.if_icmp .ge 43, 3) := by decide +kernel
theorem dX9_readsAct_62 : decode cX9_readsAct 62 = .ok (.aload_n 0, 1) := by decide +kernel
theorem dX9_readsAct_63 : decode cX9_readsAct 63 = .ok (.getfield 151, 3) := by decide +kernel
theorem dX9_readsAct_66 : decode cX9_readsAct 66 = .ok (.ifCond .ne 36, 3) := by decide +kernel
theorem dX9_readsAct_69 : decode cX9_readsAct 69 = .ok (.aload_n 0, 1) := by decide +kernel
theorem dX9_readsAct_70 : decode cX9_readsAct 70 = .ok (.getfield 69, 3) := by decide +kernel
theorem dX9_readsAct_73 : decode cX9_readsAct 73 = .ok (.iconst 4, 1) := by decide +kernel
theorem dX9_readsAct_74 : decode cX9_readsAct 74 = .ok (.iload_n 1, 1) := by decide +kernel
theorem dX9_readsAct_75 : decode cX9_readsAct 75 = .ok (.imul, 1) := by decide +kernel
theorem dX9_readsAct_76 : decode cX9_readsAct 76 = .ok (.iload_n 2, 1) := by decide +kernel
theorem dX9_readsAct_77 : decode cX9_readsAct 77 = .ok (.iadd, 1) := by decide +kernel
theorem dX9_readsAct_78 : decode cX9_readsAct 78 = .ok (.iaload, 1) := by decide +kernel
theorem dX9_readsAct_79 : decode cX9_readsAct 79 = .ok (.ifCond .eq 17, 3) := by decide +kernel
theorem dX9_readsAct_82 : decode cX9_readsAct 82 = .ok (.aload_n 0, 1) := by decide +kernel
theorem dX9_readsAct_83 : decode cX9_readsAct 83 = .ok (.aload_n 0, 1) := by decide +kernel
theorem dX9_readsAct_84 : decode cX9_readsAct 84 = .ok (.getfield 69, 3) := by decide +kernel
theorem dX9_readsAct_87 : decode cX9_readsAct 87 = .ok (.iconst 4, 1) := by decide +kernel
theorem dX9_readsAct_88 : decode cX9_readsAct 88 = .ok (.iload_n 1, 1) := by decide +kernel
theorem dX9_readsAct_89 : decode cX9_readsAct 89 = .ok (.imul, 1) := by decide +kernel
theorem dX9_readsAct_90 : decode cX9_readsAct 90 = .ok (.iload_n 2, 1) := by decide +kernel
theorem dX9_readsAct_91 : decode cX9_readsAct 91 = .ok (.iadd, 1) := by decide +kernel
theorem dX9_readsAct_92 : decode cX9_readsAct 92 = .ok (.iaload, 1) := by decide +kernel
theorem dX9_readsAct_93 : decode cX9_readsAct 93 = .ok (.invokevirtual 162, 3) := by decide +kernel
theorem dX9_readsAct_96 : decode cX9_readsAct 96 = .ok (.iinc 2 1, 3) := by decide +kernel
theorem dX9_readsAct_99 : decode cX9_readsAct 99 = .ok (.goto (-42), 3) := by decide +kernel
theorem dX9_readsAct_102 : decode cX9_readsAct 102 = .ok (.aload_n 0, 1) := by decide +kernel
theorem dX9_readsAct_103 : decode cX9_readsAct 103 = .ok (.bipush 32, 2) := by decide +kernel
theorem dX9_readsAct_105 : decode cX9_readsAct 105 = .ok (.invokevirtual 162, 3) := by decide +kernel
theorem dX9_readsAct_108 : decode cX9_readsAct 108 = .ok (.iconst 0, 1) := by decide +kernel
theorem dX9_readsAct_109 : decode cX9_readsAct 109 = .ok (.istore_n 2, 1) := by decide +kernel
theorem dX9_readsAct_110 : decode cX9_readsAct 110 = .ok (.iconst 0, 1) := by decide +kernel
theorem dX9_readsAct_111 : decode cX9_readsAct 111 = .ok (.istore_n 3, 1) := by decide +kernel
theorem dX9_readsAct_112 : decode cX9_readsAct 112 = .ok (.aload_n 0, 1) := by decide +kernel
theorem dX9_readsAct_113 : decode cX9_readsAct 113 = .ok (.getfield 151, 3) := by decide +kernel
theorem dX9_readsAct_116 : decode cX9_readsAct 116 = .ok (.ifCond .ne 59, 3) := by decide +kernel
theorem dX9_readsAct_119 : decode cX9_readsAct 119 = .ok (.iload_n 2, 1) := by decide +kernel
theorem dX9_readsAct_120 : decode cX9_readsAct 120 = .ok (.iconst 3, 1) := by decide +kernel
theorem dX9_readsAct_121 : decode cX9_readsAct 121 = .ok (.if_icmp .ge 54, 3) := by decide +kernel
theorem dX9_readsAct_124 : decode cX9_readsAct 124 = .ok (.aload_n 0, 1) := by decide +kernel
theorem dX9_readsAct_125 : decode cX9_readsAct 125 = .ok (.aload_n 0, 1) := by decide +kernel
theorem dX9_readsAct_126 : decode cX9_readsAct 126 = .ok (.getfield 155, 3) := by decide +kernel
theorem dX9_readsAct_129 : decode cX9_readsAct 129 = .ok (.invokevirtual 158, 3) := by decide +kernel
theorem dX9_readsAct_132 : decode cX9_readsAct 132 = .ok (.bipush 48, 2) := by decide +kernel
theorem dX9_readsAct_134 : decode cX9_readsAct 134 = .ok (.bipush 57, 2) := by decide +kernel
theorem dX9_readsAct_136 : decode cX9_readsAct 136 = .ok (.invokestatic 117, 3) := by decide +kernel
theorem dX9_readsAct_139 : decode cX9_readsAct 139 = .ok (.ifCond .eq 36, 3) := by decide +kernel
theorem dX9_readsAct_142 : decode cX9_readsAct 142 = .ok (.bipush 10, 2) := by decide +kernel
theorem dX9_readsAct_144 : decode cX9_readsAct 144 = .ok (.iload_n 3, 1) := by decide +kernel
theorem dX9_readsAct_145 : decode cX9_readsAct 145 = .ok (.imul, 1) := by decide +kernel
theorem dX9_readsAct_146 : decode cX9_readsAct 146 = .ok (.aload_n 0, 1) := by decide +kernel
theorem dX9_readsAct_147 : decode cX9_readsAct 147 = .ok (.aload_n 0, 1) := by decide +kernel
theorem dX9_readsAct_148 : decode cX9_readsAct 148 = .ok (.getfield 155, 3) := by decide +kernel
theorem dX9_readsAct_151 : decode cX9_readsAct 151 = .ok (.invokevirtual 158, 3) := by decide +kernel
theorem dX9_readsAct_154 : decode cX9_readsAct 154 = .ok (.iadd, 1) := by decide +kernel
theorem dX9_readsAct_155 : decode cX9_readsAct 155 = .ok (.bipush 48, 2) := by decide +kernel
theorem dX9_readsAct_157 : decode cX9_readsAct 157 = .ok (.isub, 1) := by decide +kernel
theorem dX9_readsAct_158 : decode cX9_readsAct 158 = .ok (.istore_n 3, 1) := by decide +kernel
theorem dX9_readsAct_159 : decode cX9_readsAct 159 = .ok (.aload_n 0, 1) := by decide +kernel
theorem dX9_readsAct_160 : decode cX9_readsAct 160 = .ok (.dup, 1) := by decide +kernel
theorem dX9_readsAct_161 : decode cX9_readsAct 161 = .ok (.getfield 155, 3) := by decide +kernel
theorem dX9_readsAct_164 : decode cX9_readsAct 164 = .ok (.iconst 1, 1) := by decide +kernel
theorem dX9_readsAct_165 : decode cX9_readsAct 165 = .ok (.iadd, 1) := by decide +kernel
theorem dX9_readsAct_166 : decode cX9_readsAct 166 = .ok (.putfield 155, 3) := by decide +kernel
theorem dX9_readsAct_169 : decode cX9_readsAct 169 = .ok (.iinc 2 1, 3) := by decide +kernel
theorem dX9_readsAct_172 : decode cX9_readsAct 172 = .ok (.goto (-60), 3) := by decide +kernel
theorem dX9_readsAct_175 : decode cX9_readsAct 175 = .ok (.aload_n 0, 1) := by decide +kernel
theorem dX9_readsAct_176 : decode cX9_readsAct 176 = .ok (.aload_n 0, 1) := by decide +kernel
theorem dX9_readsAct_177 : decode cX9_readsAct 177 = .ok (.getfield 151, 3) := by decide +kernel
theorem dX9_readsAct_180 : decode cX9_readsAct 180 = .ok (.ifCond .ne 7, 3) := by decide +kernel
theorem dX9_readsAct_183 : decode cX9_readsAct 183 = .ok (.iload_n 2, 1) := by decide +kernel
theorem dX9_readsAct_184 : decode cX9_readsAct 184 = .ok (.ifCond .ne 7, 3) := by decide +kernel
theorem dX9_readsAct_187 : decode cX9_readsAct 187 = .ok (.iconst 1, 1) := by decide +kernel
theorem dX9_readsAct_188 : decode cX9_readsAct 188 = .ok (.goto 4, 3) := by decide +kernel
theorem dX9_readsAct_191 : decode cX9_readsAct 191 = .ok (.iconst 0, 1) := by decide +kernel
theorem dX9_readsAct_192 : decode cX9_readsAct 192 = .ok (.putfield 151, 3) := by decide +kernel
theorem dX9_readsAct_195 : decode cX9_readsAct 195 = .ok (.aload_n 0, 1) := by decide +kernel
theorem dX9_readsAct_196 : decode cX9_readsAct 196 = .ok (.getfield 63, 3) := by decide +kernel
theorem dX9_readsAct_199 : decode cX9_readsAct 199 = .ok (.aload_n 0, 1) := by decide +kernel
theorem dX9_readsAct_200 : decode cX9_readsAct 200 = .ok (.getfield 166, 3) := by decide +kernel
theorem dX9_readsAct_203 : decode cX9_readsAct 203 = .ok (.iload_n 1, 1) := by decide +kernel
theorem dX9_readsAct_204 : decode cX9_readsAct 204 = .ok (.iastore, 1) := by decide +kernel
theorem dX9_readsAct_205 : decode cX9_readsAct 205 = .ok (.aload_n 0, 1) := by decide +kernel
theorem dX9_readsAct_206 : decode cX9_readsAct 206 = .ok (.getfield 66, 3) := by decide +kernel
theorem dX9_readsAct_209 : decode cX9_readsAct 209 = .ok (.aload_n 0, 1) := by decide +kernel
theorem dX9_readsAct_210 : decode cX9_readsAct 210 = .ok (.getfield 166, 3) := by decide +kernel
theorem dX9_readsAct_213 : decode cX9_readsAct 213 = .ok (.iload_n 3, 1) := by decide +kernel
theorem dX9_readsAct_214 : decode cX9_readsAct 214 = .ok (.iastore, 1) := by decide +kernel
theorem dX9_readsAct_215 : decode cX9_readsAct 215 = .ok (.aload_n 0, 1) := by decide +kernel
theorem dX9_readsAct_216 : decode cX9_readsAct 216 = .ok (.dup, 1) := by decide +kernel
theorem dX9_readsAct_217 : decode cX9_readsAct 217 = .ok (.getfield 166, 3) := by decide +kernel
theorem dX9_readsAct_220 : decode cX9_readsAct 220 = .ok (.iconst 1, 1) := by decide +kernel
theorem dX9_readsAct_221 : decode cX9_readsAct 221 = .ok (.iadd, 1) := by decide +kernel
theorem dX9_readsAct_222 : decode cX9_readsAct 222 = .ok (.putfield 166, 3) := by decide +kernel
theorem dX9_readsAct_225 : decode cX9_readsAct 225 = .ok (.return_, 1) := by decide +kernel
theorem dX9_reads_0 : decode cX9_reads 0 = .ok (.aload_n 0, 1) := by decide +kernel
theorem dX9_reads_1 : decode cX9_reads 1 = .ok (.iconst 0, 1) := by decide +kernel
theorem dX9_reads_2 : decode cX9_reads 2 = .ok (.putfield 155, 3) := by decide +kernel
theorem dX9_reads_5 : decode cX9_reads 5 = .ok (.aload_n 0, 1) := by decide +kernel
theorem dX9_reads_6 : decode cX9_reads 6 = .ok (.iconst 0, 1) := by decide +kernel
theorem dX9_reads_7 : decode cX9_reads 7 = .ok (.putfield 151, 3) := by decide +kernel
theorem dX9_reads_10 : decode cX9_reads 10 = .ok (.aload_n 0, 1) := by decide +kernel
theorem dX9_reads_11 : decode cX9_reads 11 = .ok (.iconst 0, 1) := by decide +kernel
theorem dX9_reads_12 : decode cX9_reads 12 = .ok (.putfield 166, 3) := by decide +kernel
theorem dX9_reads_15 : decode cX9_reads 15 = .ok (.aload_n 0, 1) := by decide +kernel
theorem dX9_reads_16 : decode cX9_reads 16 = .ok (.getfield 146, 3) := by decide +kernel
theorem dX9_reads_19 : decode cX9_reads 19 = .ok (.ifCond .le 7, 3) := by decide +kernel
theorem dX9_reads_22 : decode cX9_reads 22 = .ok (.iconst 1, 1) := by decide +kernel
theorem dX9_reads_23 : decode cX9_reads 23 = .ok (.goto 4, 3) := by decide +kernel
theorem dX9_reads_26 : decode cX9_reads 26 = .ok (.iconst 0, 1) := by decide +kernel
theorem dX9_reads_27 : decode cX9_reads 27 = .ok (.istore_n 1, 1) := by decide +kernel
theorem dX9_reads_28 : decode cX9_reads 28 = .ok (.iload_n 1, 1) := by decide +kernel
theorem dX9_reads_29 : decode cX9_reads 29 = .ok (.ifCond .eq 63, 3) := by decide +kernel
theorem dX9_reads_32 : decode cX9_reads 32 = .ok (.aload_n 0, 1) := by decide +kernel
theorem dX9_reads_33 : decode cX9_reads 33 = .ok (.invokevirtual 169, 3) := by decide +kernel
theorem dX9_reads_36 : decode cX9_reads 36 = .ok (.aload_n 0, 1) := by decide +kernel
theorem dX9_reads_37 : decode cX9_reads 37 = .ok (.getfield 151, 3) := by decide +kernel
theorem dX9_reads_40 : decode cX9_reads 40 = .ok (.ifCond .ne 29, 3) := by decide +kernel
theorem dX9_reads_43 : decode cX9_reads 43 = .ok (.aload_n 0, 1) := by decide +kernel
theorem dX9_reads_44 : decode cX9_reads 44 = .ok (.getfield 166, 3) := by decide +kernel
theorem dX9_reads_47 : decode cX9_reads 47 = .ok (.bipush 10, 2) := by decide +kernel
theorem dX9_reads_49 : decode cX9_reads 49 = .ok (.if_icmp .ge 20, 3) := by decide +kernel
theorem dX9_reads_52 : decode cX9_reads 52 = .ok (.aload_n 0, 1) := by decide +kernel
theorem dX9_reads_53 : decode cX9_reads 53 = .ok (.aload_n 0, 1) := by decide +kernel
theorem dX9_reads_54 : decode cX9_reads 54 = .ok (.getfield 155, 3) := by decide +kernel
theorem dX9_reads_57 : decode cX9_reads 57 = .ok (.invokevirtual 158, 3) := by decide +kernel
theorem dX9_reads_60 : decode cX9_reads 60 = .ok (.bipush 59, 2) := by decide +kernel
theorem dX9_reads_62 : decode cX9_reads 62 = .ok (.if_icmp .ne 7, 3) := by decide +kernel
theorem dX9_reads_65 : decode cX9_reads 65 = .ok (.iconst 1, 1) := by decide +kernel
theorem dX9_reads_66 : decode cX9_reads 66 = .ok (.goto 4, 3) := by decide +kernel
theorem dX9_reads_69 : decode cX9_reads 69 = .ok (.iconst 0, 1) := by decide +kernel
theorem dX9_reads_70 : decode cX9_reads 70 = .ok (.istore_n 1, 1) := by decide +kernel
theorem dX9_reads_71 : decode cX9_reads 71 = .ok (.aload_n 0, 1) := by decide +kernel
theorem dX9_reads_72 : decode cX9_reads 72 = .ok (.dup, 1) := by decide +kernel
theorem dX9_reads_73 : decode cX9_reads 73 = .ok (.getfield 155, 3) := by decide +kernel
theorem dX9_reads_76 : decode cX9_reads 76 = .ok (.iload_n 1, 1) := by decide +kernel
theorem dX9_reads_77 : decode cX9_reads 77 = .ok (.ifCond .eq 7, 3) := by decide +kernel
theorem dX9_reads_80 : decode cX9_reads 80 = .ok (.iconst 1, 1) := by decide +kernel
theorem dX9_reads_81 : decode cX9_reads 81 = .ok (.goto 4, 3) := by decide +kernel
theorem dX9_reads_84 : decode cX9_reads 84 = .ok (.iconst 0, 1) := by decide +kernel
theorem dX9_reads_85 : decode cX9_reads 85 = .ok (.iadd, 1) := by decide +kernel
theorem dX9_reads_86 : decode cX9_reads 86 = .ok (.putfield 155, 3) := by decide +kernel
theorem dX9_reads_89 : decode cX9_reads 89 = .ok (.goto (-61), 3) := by decide +kernel
theorem dX9_reads_92 : decode cX9_reads 92 = .ok (.aload_n 0, 1) := by decide +kernel
theorem dX9_reads_93 : decode cX9_reads 93 = .ok (.aload_n 0, 1) := by decide +kernel
theorem dX9_reads_94 : decode cX9_reads 94 = .ok (.getfield 151, 3) := by decide +kernel
theorem dX9_reads_97 : decode cX9_reads 97 = .ok (.ifCond .ne 14, 3) := by decide +kernel
theorem dX9_reads_100 : decode cX9_reads 100 = .ok (.aload_n 0, 1) := by decide +kernel
theorem dX9_reads_101 : decode cX9_reads 101 = .ok (.getfield 155, 3) := by decide +kernel
theorem dX9_reads_104 : decode cX9_reads 104 = .ok (.aload_n 0, 1) := by decide +kernel
theorem dX9_reads_105 : decode cX9_reads 105 = .ok (.getfield 146, 3) := by decide +kernel
theorem dX9_reads_108 : decode cX9_reads 108 = .ok (.if_icmp .eq 7, 3) := by decide +kernel
theorem dX9_reads_111 : decode cX9_reads 111 = .ok (.iconst 1, 1) := by decide +kernel
theorem dX9_reads_112 : decode cX9_reads 112 = .ok (.goto 4, 3) := by decide +kernel
theorem dX9_reads_115 : decode cX9_reads 115 = .ok (.iconst 0, 1) := by decide +kernel
theorem dX9_reads_116 : decode cX9_reads 116 = .ok (.putfield 151, 3) := by decide +kernel
theorem dX9_reads_119 : decode cX9_reads 119 = .ok (.return_, 1) := by decide +kernel
theorem dX9_tellsOfWhatIs_0 : decode cX9_tellsOfWhatIs 0 = .ok (.iconst 1, 1) := by decide +kernel
theorem dX9_tellsOfWhatIs_1 : decode cX9_tellsOfWhatIs 1 = .ok (.istore_n 1, 1) := by decide +kernel
theorem dX9_tellsOfWhatIs_2 : decode cX9_tellsOfWhatIs 2 = .ok (.iconst 0, 1) := by decide +kernel
theorem dX9_tellsOfWhatIs_3 : decode cX9_tellsOfWhatIs 3 = .ok (.istore_n 2, 1) := by decide +kernel
theorem dX9_tellsOfWhatIs_4 : decode cX9_tellsOfWhatIs 4 = .ok (.iload_n 2, 1) := by decide +kernel
theorem dX9_tellsOfWhatIs_5 : decode cX9_tellsOfWhatIs 5 = .ok (.aload_n 0, 1) := by decide +kernel
theorem dX9_tellsOfWhatIs_6 : decode cX9_tellsOfWhatIs 6 = .ok (.getfield 166, 3) := by decide +kernel
theorem dX9_tellsOfWhatIs_9 : decode cX9_tellsOfWhatIs 9 = .ok (.if_icmp .ge 95, 3) := by decide +kernel
theorem dX9_tellsOfWhatIs_12 : decode cX9_tellsOfWhatIs 12 = .ok (.aload_n 0, 1) := by decide +kernel
theorem dX9_tellsOfWhatIs_13 : decode cX9_tellsOfWhatIs 13 = .ok (.getfield 63, 3) := by decide +kernel
theorem dX9_tellsOfWhatIs_16 : decode cX9_tellsOfWhatIs 16 = .ok (.iload_n 2, 1) := by decide +kernel
theorem dX9_tellsOfWhatIs_17 : decode cX9_tellsOfWhatIs 17 = .ok (.iaload, 1) := by decide +kernel
theorem dX9_tellsOfWhatIs_18 : decode cX9_tellsOfWhatIs 18 = .ok (.istore_n 3, 1) := by decide +kernel
theorem dX9_tellsOfWhatIs_19 : decode cX9_tellsOfWhatIs 19 = .ok (.iload_n 3, 1) := by decide +kernel
theorem dX9_tellsOfWhatIs_20 : decode cX9_tellsOfWhatIs 20 = .ok (.iconst 2, 1) := by decide +kernel
theorem dX9_tellsOfWhatIs_21 : decode cX9_tellsOfWhatIs 21 = .ok (.if_icmp .eq 8, 3) := by decide +kernel
theorem dX9_tellsOfWhatIs_24 : decode cX9_tellsOfWhatIs 24 = .ok (.iload_n 3, 1) := by decide +kernel
theorem dX9_tellsOfWhatIs_25 : decode cX9_tellsOfWhatIs 25 = .ok (.iconst 3, 1) := by decide +kernel
theorem dX9_tellsOfWhatIs_26 : decode cX9_tellsOfWhatIs 26 = .ok (.if_icmp .ne 12, 3) := by decide +kernel
theorem dX9_tellsOfWhatIs_29 : decode cX9_tellsOfWhatIs 29 = .ok (.aload_n 0, 1) := by decide +kernel
theorem dX9_tellsOfWhatIs_30 : decode cX9_tellsOfWhatIs 30 = .ok (.getfield 16, 3) := by decide +kernel
theorem dX9_tellsOfWhatIs_33 : decode cX9_tellsOfWhatIs 33 = .ok (.iconst 0, 1) := by decide +kernel
theorem dX9_tellsOfWhatIs_34 : decode cX9_tellsOfWhatIs 34 = .ok (.iaload, 1) := by decide +kernel
theorem dX9_tellsOfWhatIs_35 : decode cX9_tellsOfWhatIs 35 = .ok (.goto 40, 3) := by decide +kernel
theorem dX9_tellsOfWhatIs_38 : decode cX9_tellsOfWhatIs 38 = .ok (.iload_n 3, 1) := by decide +kernel
theorem dX9_tellsOfWhatIs_39 : decode cX9_tellsOfWhatIs 39 = .ok (.iconst 4, 1) := by decide +kernel
theorem dX9_tellsOfWhatIs_40 : decode cX9_tellsOfWhatIs 40 = .ok (.if_icmp .eq 8, 3) := by decide +kernel
theorem dX9_tellsOfWhatIs_43 : decode cX9_tellsOfWhatIs 43 = .ok (.iload_n 3, 1) := by decide +kernel
theorem dX9_tellsOfWhatIs_44 : decode cX9_tellsOfWhatIs 44 = .ok (.iconst 5, 1) := by decide +kernel
theorem dX9_tellsOfWhatIs_45 : decode cX9_tellsOfWhatIs 45 = .ok (.if_icmp .ne 12, 3) := by decide +kernel
theorem dX9_tellsOfWhatIs_48 : decode cX9_tellsOfWhatIs 48 = .ok (.aload_n 0, 1) := by decide +kernel
theorem dX9_tellsOfWhatIs_49 : decode cX9_tellsOfWhatIs 49 = .ok (.getfield 13, 3) := by decide +kernel
theorem dX9_tellsOfWhatIs_52 : decode cX9_tellsOfWhatIs 52 = .ok (.iconst 0, 1) := by decide +kernel
theorem dX9_tellsOfWhatIs_53 : decode cX9_tellsOfWhatIs 53 = .ok (.iaload, 1) := by decide +kernel
theorem dX9_tellsOfWhatIs_54 : decode cX9_tellsOfWhatIs 54 = .ok (.goto 21, 3) := by decide +kernel
theorem dX9_tellsOfWhatIs_57 : decode cX9_tellsOfWhatIs 57 = .ok (.iload_n 3, 1) := by decide +kernel
theorem dX9_tellsOfWhatIs_58 : decode cX9_tellsOfWhatIs 58 = .ok (.bipush 6, 2) := by decide +kernel
theorem dX9_tellsOfWhatIs_60 : decode cX9_tellsOfWhatIs 60 = .ok (.if_icmp .ne 12, 3) := by decide +kernel
theorem dX9_tellsOfWhatIs_63 : decode cX9_tellsOfWhatIs 63 = .ok (.aload_n 0, 1) := by decide +kernel
theorem dX9_tellsOfWhatIs_64 : decode cX9_tellsOfWhatIs 64 = .ok (.getfield 19, 3) := by decide +kernel
theorem dX9_tellsOfWhatIs_67 : decode cX9_tellsOfWhatIs 67 = .ok (.iconst 0, 1) := by decide +kernel
theorem dX9_tellsOfWhatIs_68 : decode cX9_tellsOfWhatIs 68 = .ok (.iaload, 1) := by decide +kernel
theorem dX9_tellsOfWhatIs_69 : decode cX9_tellsOfWhatIs 69 = .ok (.goto 6, 3) := by decide +kernel
theorem dX9_tellsOfWhatIs_72 : decode cX9_tellsOfWhatIs 72 = .ok (.sipush 1000, 3) := by decide +kernel
theorem dX9_tellsOfWhatIs_75 : decode cX9_tellsOfWhatIs 75 = .ok (.istore 4, 2) := by decide +kernel
theorem dX9_tellsOfWhatIs_77 : decode cX9_tellsOfWhatIs 77 = .ok (.iload_n 1, 1) := by decide +kernel
theorem dX9_tellsOfWhatIs_78 : decode cX9_tellsOfWhatIs 78 = .ok (.ifCond .eq 18, 3) := by decide +kernel
theorem dX9_tellsOfWhatIs_81 : decode cX9_tellsOfWhatIs 81 = .ok (.aload_n 0, 1) := by decide +kernel
theorem dX9_tellsOfWhatIs_82 : decode cX9_tellsOfWhatIs 82 = .ok (.getfield 66, 3) := by decide +kernel
theorem dX9_tellsOfWhatIs_85 : decode cX9_tellsOfWhatIs 85 = .ok (.iload_n 2, 1) := by decide +kernel
theorem dX9_tellsOfWhatIs_86 : decode cX9_tellsOfWhatIs 86 = .ok (.iaload, 1) := by decide +kernel
theorem dX9_tellsOfWhatIs_87 : decode cX9_tellsOfWhatIs 87 = .ok (.iload 4, 2) := by decide +kernel
theorem dX9_tellsOfWhatIs_89 : decode cX9_tellsOfWhatIs 89 = .ok (.if_icmp .ge 7, 3) := by decide +kernel
theorem dX9_tellsOfWhatIs_92 : decode cX9_tellsOfWhatIs 92 = .ok (.iconst 1, 1) := by decide +kernel
theorem dX9_tellsOfWhatIs_93 : decode cX9_tellsOfWhatIs 93 = .ok (.goto 4, 3) := by decide +kernel
theorem dX9_tellsOfWhatIs_96 : decode cX9_tellsOfWhatIs 96 = .ok (.iconst 0, 1) := by decide +kernel
theorem dX9_tellsOfWhatIs_97 : decode cX9_tellsOfWhatIs 97 = .ok (.istore_n 1, 1) := by decide +kernel
theorem dX9_tellsOfWhatIs_98 : decode cX9_tellsOfWhatIs 98 = .ok (.iinc 2 1, 3) := by decide +kernel
theorem dX9_tellsOfWhatIs_101 : decode cX9_tellsOfWhatIs 101 = .ok (.goto (-97), 3) := by decide +kernel
theorem dX9_tellsOfWhatIs_104 : decode cX9_tellsOfWhatIs 104 = .ok (.iload_n 1, 1) := by decide +kernel
theorem dX9_tellsOfWhatIs_105 : decode cX9_tellsOfWhatIs 105 = .ok (.ireturn, 1) := by decide +kernel
theorem dX9_body_0 : decode cX9_body 0 = .ok (.aload_n 0, 1) := by decide +kernel
theorem dX9_body_1 : decode cX9_body 1 = .ok (.iload_n 1, 1) := by decide +kernel
theorem dX9_body_2 : decode cX9_body 2 = .ok (.invokevirtual 172, 3) := by decide +kernel
theorem dX9_body_5 : decode cX9_body 5 = .ok (.ifCond .ne 5, 3) := by decide +kernel
theorem dX9_body_8 : decode cX9_body 8 = .ok (.iconst (-1), 1) := by decide +kernel
theorem dX9_body_9 : decode cX9_body 9 = .ok (.ireturn, 1) := by decide +kernel
theorem dX9_body_10 : decode cX9_body 10 = .ok (.aload_n 0, 1) := by decide +kernel
theorem dX9_body_11 : decode cX9_body 11 = .ok (.getfield 49, 3) := by decide +kernel
theorem dX9_body_14 : decode cX9_body 14 = .ok (.iload_n 1, 1) := by decide +kernel
theorem dX9_body_15 : decode cX9_body 15 = .ok (.baload, 1) := by decide +kernel
theorem dX9_body_16 : decode cX9_body 16 = .ok (.ifCond .eq 6, 3) := by decide +kernel
theorem dX9_body_19 : decode cX9_body 19 = .ok (.bipush (-3), 2) := by decide +kernel
theorem dX9_body_21 : decode cX9_body 21 = .ok (.ireturn, 1) := by decide +kernel
theorem dX9_body_22 : decode cX9_body 22 = .ok (.aload_n 0, 1) := by decide +kernel
theorem dX9_body_23 : decode cX9_body 23 = .ok (.invokevirtual 175, 3) := by decide +kernel
theorem dX9_body_26 : decode cX9_body 26 = .ok (.aload_n 0, 1) := by decide +kernel
theorem dX9_body_27 : decode cX9_body 27 = .ok (.iconst 0, 1) := by decide +kernel
theorem dX9_body_28 : decode cX9_body 28 = .ok (.putfield 146, 3) := by decide +kernel
theorem dX9_body_31 : decode cX9_body 31 = .ok (.aload_n 0, 1) := by decide +kernel
theorem dX9_body_32 : decode cX9_body 32 = .ok (.getfield 151, 3) := by decide +kernel
theorem dX9_body_35 : decode cX9_body 35 = .ok (.ifCond .eq 11, 3) := by decide +kernel
theorem dX9_body_38 : decode cX9_body 38 = .ok (.bipush (-10), 2) := by decide +kernel
theorem dX9_body_40 : decode cX9_body 40 = .ok (.aload_n 0, 1) := by decide +kernel
theorem dX9_body_41 : decode cX9_body 41 = .ok (.getfield 155, 3) := by decide +kernel
theorem dX9_body_44 : decode cX9_body 44 = .ok (.isub, 1) := by decide +kernel
theorem dX9_body_45 : decode cX9_body 45 = .ok (.ireturn, 1) := by decide +kernel
theorem dX9_body_46 : decode cX9_body 46 = .ok (.aload_n 0, 1) := by decide +kernel
theorem dX9_body_47 : decode cX9_body 47 = .ok (.invokevirtual 178, 3) := by decide +kernel
theorem dX9_body_50 : decode cX9_body 50 = .ok (.ifCond .ne 6, 3) := by decide +kernel
theorem dX9_body_53 : decode cX9_body 53 = .ok (.bipush (-2), 2) := by decide +kernel
theorem dX9_body_55 : decode cX9_body 55 = .ok (.ireturn, 1) := by decide +kernel
theorem dX9_body_56 : decode cX9_body 56 = .ok (.aload_n 0, 1) := by decide +kernel
theorem dX9_body_57 : decode cX9_body 57 = .ok (.invokevirtual 182, 3) := by decide +kernel
theorem dX9_body_60 : decode cX9_body 60 = .ok (.aload_n 0, 1) := by decide +kernel
theorem dX9_body_61 : decode cX9_body 61 = .ok (.getfield 25, 3) := by decide +kernel
theorem dX9_body_64 : decode cX9_body 64 = .ok (.iload_n 1, 1) := by decide +kernel
theorem dX9_body_65 : decode cX9_body 65 = .ok (.aload_n 0, 1) := by decide +kernel
theorem dX9_body_66 : decode cX9_body 66 = .ok (.getfield 166, 3) := by decide +kernel
theorem dX9_body_69 : decode cX9_body 69 = .ok (.iastore, 1) := by decide +kernel
theorem dX9_body_70 : decode cX9_body 70 = .ok (.iconst 0, 1) := by decide +kernel
theorem dX9_body_71 : decode cX9_body 71 = .ok (.istore_n 2, 1) := by decide +kernel
theorem dX9_body_72 : decode cX9_body 72 = .ok (.iload_n 2, 1) := by decide +kernel
theorem dX9_body_73 : decode cX9_body 73 = .ok (.aload_n 0, 1) := by decide +kernel
theorem dX9_body_74 : decode cX9_body 74 = .ok (.getfield 166, 3) := by decide +kernel
theorem dX9_body_77 : decode cX9_body 77 = .ok (.if_icmp .ge 43, 3) := by decide +kernel
theorem dX9_body_80 : decode cX9_body 80 = .ok (.aload_n 0, 1) := by decide +kernel
theorem dX9_body_81 : decode cX9_body 81 = .ok (.getfield 28, 3) := by decide +kernel
theorem dX9_body_84 : decode cX9_body 84 = .ok (.bipush 10, 2) := by decide +kernel
theorem dX9_body_86 : decode cX9_body 86 = .ok (.iload_n 1, 1) := by decide +kernel
theorem dX9_body_87 : decode cX9_body 87 = .ok (.imul, 1) := by decide +kernel
theorem dX9_body_88 : decode cX9_body 88 = .ok (.iload_n 2, 1) := by decide +kernel
theorem dX9_body_89 : decode cX9_body 89 = .ok (.iadd, 1) := by decide +kernel
theorem dX9_body_90 : decode cX9_body 90 = .ok (.aload_n 0, 1) := by decide +kernel
theorem dX9_body_91 : decode cX9_body 91 = .ok (.getfield 63, 3) := by decide +kernel
theorem dX9_body_94 : decode cX9_body 94 = .ok (.iload_n 2, 1) := by decide +kernel
theorem dX9_body_95 : decode cX9_body 95 = .ok (.iaload, 1) := by decide +kernel
theorem dX9_body_96 : decode cX9_body 96 = .ok (.iastore, 1) := by decide +kernel
theorem dX9_body_97 : decode cX9_body 97 = .ok (.aload_n 0, 1) := by decide +kernel
theorem dX9_body_98 : decode cX9_body 98 = .ok (.getfield 31, 3) := by decide +kernel
theorem dX9_body_101 : decode cX9_body 101 = .ok (.bipush 10, 2) := by decide +kernel
theorem dX9_body_103 : decode cX9_body 103 = .ok (.iload_n 1, 1) := by decide +kernel
theorem dX9_body_104 : decode cX9_body 104 = .ok (.imul, 1) := by decide +kernel
theorem dX9_body_105 : decode cX9_body 105 = .ok (.iload_n 2, 1) := by decide +kernel
theorem dX9_body_106 : decode cX9_body 106 = .ok (.iadd, 1) := by decide +kernel
theorem dX9_body_107 : decode cX9_body 107 = .ok (.aload_n 0, 1) := by decide +kernel
theorem dX9_body_108 : decode cX9_body 108 = .ok (.getfield 66, 3) := by decide +kernel
theorem dX9_body_111 : decode cX9_body 111 = .ok (.iload_n 2, 1) := by decide +kernel
theorem dX9_body_112 : decode cX9_body 112 = .ok (.iaload, 1) := by decide +kernel
theorem dX9_body_113 : decode cX9_body 113 = .ok (.iastore, 1) := by decide +kernel
theorem dX9_body_114 : decode cX9_body 114 = .ok (.iinc 2 1, 3) := by decide +kernel
theorem dX9_body_117 : decode cX9_body 117 = .ok (.goto (-45), 3) := by decide +kernel
theorem dX9_body_120 : decode cX9_body 120 = .ok (.aload_n 0, 1) := by decide +kernel
theorem dX9_body_121 : decode cX9_body 121 = .ok (.iconst (-1), 1) := by decide +kernel
theorem dX9_body_122 : decode cX9_body 122 = .ok (.invokevirtual 185, 3) := by decide +kernel
theorem dX9_body_125 : decode cX9_body 125 = .ok (.ifCond .eq 10, 3) := by decide +kernel
theorem dX9_body_128 : decode cX9_body 128 = .ok (.aload_n 0, 1) := by decide +kernel
theorem dX9_body_129 : decode cX9_body 129 = .ok (.getfield 166, 3) := by decide +kernel
theorem dX9_body_132 : decode cX9_body 132 = .ok (.goto 5, 3) := by decide +kernel
theorem dX9_body_135 : decode cX9_body 135 = .ok (.bipush (-5), 2) := by decide +kernel
theorem dX9_body_137 : decode cX9_body 137 = .ok (.ireturn, 1) := by decide +kernel
theorem dX9_act_0 : decode cX9_act 0 = .ok (.aload_n 0, 1) := by decide +kernel
theorem dX9_act_1 : decode cX9_act 1 = .ok (.iload_n 1, 1) := by decide +kernel
theorem dX9_act_2 : decode cX9_act 2 = .ok (.invokevirtual 172, 3) := by decide +kernel
theorem dX9_act_5 : decode cX9_act 5 = .ok (.ifCond .eq 19, 3) := by decide +kernel
theorem dX9_act_8 : decode cX9_act 8 = .ok (.iload_n 2, 1) := by decide +kernel
theorem dX9_act_9 : decode cX9_act 9 = .ok (.iconst 0, 1) := by decide +kernel
theorem dX9_act_10 : decode cX9_act 10 = .ok (.aload_n 0, 1) := by decide +kernel
theorem dX9_act_11 : decode cX9_act 11 = .ok (.getfield 25, 3) := by decide +kernel
theorem dX9_act_14 : decode cX9_act 14 = .ok (.iload_n 1, 1) := by decide +kernel
theorem dX9_act_15 : decode cX9_act 15 = .ok (.iaload, 1) := by decide +kernel
theorem dX9_act_16 : decode cX9_act 16 = .ok (.iconst 1, 1) := by decide +kernel
theorem dX9_act_17 : decode cX9_act 17 = .ok (.isub, 1) := by decide +kernel
theorem dX9_act_18 : decode cX9_act 18 = .ok (.invokestatic 117, 3) := by decide +kernel
theorem dX9_act_21 : decode cX9_act 21 = .ok (.ifCond .ne 5, 3) := by decide +kernel
theorem dX9_act_24 : decode cX9_act 24 = .ok (.iconst (-1), 1) := by decide +kernel
theorem dX9_act_25 : decode cX9_act 25 = .ok (.ireturn, 1) := by decide +kernel
theorem dX9_act_26 : decode cX9_act 26 = .ok (.iload_n 3, 1) := by decide +kernel
theorem dX9_act_27 : decode cX9_act 27 = .ok (.ifCond .ne 17, 3) := by decide +kernel
theorem dX9_act_30 : decode cX9_act 30 = .ok (.aload_n 0, 1) := by decide +kernel
theorem dX9_act_31 : decode cX9_act 31 = .ok (.getfield 28, 3) := by decide +kernel
theorem dX9_act_34 : decode cX9_act 34 = .ok (.bipush 10, 2) := by decide +kernel
theorem dX9_act_36 : decode cX9_act 36 = .ok (.iload_n 1, 1) := by decide +kernel
theorem dX9_act_37 : decode cX9_act 37 = .ok (.imul, 1) := by decide +kernel
theorem dX9_act_38 : decode cX9_act 38 = .ok (.iload_n 2, 1) := by decide +kernel
theorem dX9_act_39 : decode cX9_act 39 = .ok (.iadd, 1) := by decide +kernel
theorem dX9_act_40 : decode cX9_act 40 = .ok (.iaload, 1) := by decide +kernel
theorem dX9_act_41 : decode cX9_act 41 = .ok (.goto 23, 3) := by decide +kernel
theorem dX9_act_44 : decode cX9_act 44 = .ok (.iload_n 3, 1) := by decide +kernel
theorem dX9_act_45 : decode cX9_act 45 = .ok (.iconst 1, 1) := by decide +kernel
theorem dX9_act_46 : decode cX9_act 46 = .ok (.if_icmp .ne 17, 3) := by decide +kernel
theorem dX9_act_49 : decode cX9_act 49 = .ok (.aload_n 0, 1) := by decide +kernel
theorem dX9_act_50 : decode cX9_act 50 = .ok (.getfield 31, 3) := by decide +kernel
theorem dX9_act_53 : decode cX9_act 53 = .ok (.bipush 10, 2) := by decide +kernel
theorem dX9_act_55 : decode cX9_act 55 = .ok (.iload_n 1, 1) := by decide +kernel
theorem dX9_act_56 : decode cX9_act 56 = .ok (.imul, 1) := by decide +kernel
theorem dX9_act_57 : decode cX9_act 57 = .ok (.iload_n 2, 1) := by decide +kernel
theorem dX9_act_58 : decode cX9_act 58 = .ok (.iadd, 1) := by decide +kernel
theorem dX9_act_59 : decode cX9_act 59 = .ok (.iaload, 1) := by decide +kernel
theorem dX9_act_60 : decode cX9_act 60 = .ok (.goto 4, 3) := by decide +kernel
theorem dX9_act_63 : decode cX9_act 63 = .ok (.iconst (-1), 1) := by decide +kernel
theorem dX9_act_64 : decode cX9_act 64 = .ok (.ireturn, 1) := by decide +kernel
theorem dX9_hears_0 : decode cX9_hears 0 = .ok (.iconst 0, 1) := by decide +kernel
theorem dX9_hears_1 : decode cX9_hears 1 = .ok (.istore_n 3, 1) := by decide +kernel
theorem dX9_hears_2 : decode cX9_hears 2 = .ok (.iconst 0, 1) := by decide +kernel
theorem dX9_hears_3 : decode cX9_hears 3 = .ok (.istore 4, 2) := by decide +kernel
theorem dX9_hears_5 : decode cX9_hears 5 = .ok (.iload 4, 2) := by decide +kernel
theorem dX9_hears_7 : decode cX9_hears 7 = .ok (.aload_n 0, 1) := by decide +kernel
theorem dX9_hears_8 : decode cX9_hears 8 = .ok (.getfield 40, 3) := by decide +kernel
theorem dX9_hears_11 : decode cX9_hears 11 = .ok (.iload_n 1, 1) := by decide +kernel
theorem dX9_hears_12 : decode cX9_hears 12 = .ok (.iaload, 1) := by decide +kernel
theorem dX9_hears_13 : decode cX9_hears 13 = .ok (.if_icmp .ge 35, 3) := by decide +kernel
theorem dX9_hears_16 : decode cX9_hears 16 = .ok (.iload_n 3, 1) := by decide +kernel
theorem dX9_hears_17 : decode cX9_hears 17 = .ok (.ifCond .ne 19, 3) := by decide +kernel
theorem dX9_hears_20 : decode cX9_hears 20 = .ok (.aload_n 0, 1) := by decide +kernel
theorem dX9_hears_21 : decode cX9_hears 21 = .ok (.getfield 43, 3) := by decide +kernel
theorem dX9_hears_24 : decode cX9_hears 24 = .ok (.bipush 6, 2) := by decide +kernel
theorem dX9_hears_26 : decode cX9_hears 26 = .ok (.iload_n 1, 1) := by decide +kernel
theorem dX9_hears_27 : decode cX9_hears 27 = .ok (.imul, 1) := by decide +kernel
theorem dX9_hears_28 : decode cX9_hears 28 = .ok (.iload 4, 2) := by decide +kernel
theorem dX9_hears_30 : decode cX9_hears 30 = .ok (.iadd, 1) := by decide +kernel
theorem dX9_hears_31 : decode cX9_hears 31 = .ok (.iaload, 1) := by decide +kernel
theorem dX9_hears_32 : decode cX9_hears 32 = .ok (.iload_n 2, 1) := by decide +kernel
theorem dX9_hears_33 : decode cX9_hears 33 = .ok (.if_icmp .ne 7, 3) := by decide +kernel
theorem dX9_hears_36 : decode cX9_hears 36 = .ok (.iconst 1, 1) := by decide +kernel
theorem dX9_hears_37 : decode cX9_hears 37 = .ok (.goto 4, 3) := by decide +kernel
theorem dX9_hears_40 : decode cX9_hears 40 = .ok (.iconst 0, 1) := by decide +kernel
theorem dX9_hears_41 : decode cX9_hears 41 = .ok (.istore_n 3, 1) := by decide +kernel
theorem dX9_hears_42 : decode cX9_hears 42 = .ok (.iinc 4 1, 3) := by decide +kernel
theorem dX9_hears_45 : decode cX9_hears 45 = .ok (.goto (-40), 3) := by decide +kernel
theorem dX9_hears_48 : decode cX9_hears 48 = .ok (.iload_n 3, 1) := by decide +kernel
theorem dX9_hears_49 : decode cX9_hears 49 = .ok (.ireturn, 1) := by decide +kernel
theorem dX9_hear_0 : decode cX9_hear 0 = .ok (.aload_n 0, 1) := by decide +kernel
theorem dX9_hear_1 : decode cX9_hear 1 = .ok (.iconst 2, 1) := by decide +kernel
theorem dX9_hear_2 : decode cX9_hear 2 = .ok (.iload_n 1, 1) := by decide +kernel
theorem dX9_hear_3 : decode cX9_hear 3 = .ok (.invokevirtual 138, 3) := by decide +kernel
theorem dX9_hear_6 : decode cX9_hear 6 = .ok (.ifCond .eq 11, 3) := by decide +kernel
theorem dX9_hear_9 : decode cX9_hear 9 = .ok (.aload_n 0, 1) := by decide +kernel
theorem dX9_hear_10 : decode cX9_hear 10 = .ok (.iload_n 2, 1) := by decide +kernel
theorem dX9_hear_11 : decode cX9_hear 11 = .ok (.invokevirtual 172, 3) := by decide +kernel
theorem dX9_hear_14 : decode cX9_hear 14 = .ok (.ifCond .ne 5, 3) := by decide +kernel
theorem dX9_hear_17 : decode cX9_hear 17 = .ok (.iconst (-1), 1) := by decide +kernel
theorem dX9_hear_18 : decode cX9_hear 18 = .ok (.ireturn, 1) := by decide +kernel
theorem dX9_hear_19 : decode cX9_hear 19 = .ok (.aload_n 0, 1) := by decide +kernel
theorem dX9_hear_20 : decode cX9_hear 20 = .ok (.iload_n 1, 1) := by decide +kernel
theorem dX9_hear_21 : decode cX9_hear 21 = .ok (.iload_n 2, 1) := by decide +kernel
theorem dX9_hear_22 : decode cX9_hear 22 = .ok (.invokevirtual 188, 3) := by decide +kernel
theorem dX9_hear_25 : decode cX9_hear 25 = .ok (.ifCond .ne 12, 3) := by decide +kernel
theorem dX9_hear_28 : decode cX9_hear 28 = .ok (.aload_n 0, 1) := by decide +kernel
theorem dX9_hear_29 : decode cX9_hear 29 = .ok (.getfield 49, 3) := by decide +kernel
theorem dX9_hear_32 : decode cX9_hear 32 = .ok (.iload_n 2, 1) := by decide +kernel
theorem dX9_hear_33 : decode cX9_hear 33 = .ok (.baload, 1) := by decide +kernel
theorem dX9_hear_34 : decode cX9_hear 34 = .ok (.ifCond .eq 6, 3) := by decide +kernel
theorem dX9_hear_37 : decode cX9_hear 37 = .ok (.bipush (-3), 2) := by decide +kernel
theorem dX9_hear_39 : decode cX9_hear 39 = .ok (.ireturn, 1) := by decide +kernel
theorem dX9_hear_40 : decode cX9_hear 40 = .ok (.aload_n 0, 1) := by decide +kernel
theorem dX9_hear_41 : decode cX9_hear 41 = .ok (.getfield 40, 3) := by decide +kernel
theorem dX9_hear_44 : decode cX9_hear 44 = .ok (.iload_n 1, 1) := by decide +kernel
theorem dX9_hear_45 : decode cX9_hear 45 = .ok (.iaload, 1) := by decide +kernel
theorem dX9_hear_46 : decode cX9_hear 46 = .ok (.bipush 6, 2) := by decide +kernel
theorem dX9_hear_48 : decode cX9_hear 48 = .ok (.if_icmp .ne 6, 3) := by decide +kernel
theorem dX9_hear_51 : decode cX9_hear 51 = .ok (.bipush (-4), 2) := by decide +kernel
theorem dX9_hear_53 : decode cX9_hear 53 = .ok (.ireturn, 1) := by decide +kernel
theorem dX9_hear_54 : decode cX9_hear 54 = .ok (.aload_n 0, 1) := by decide +kernel
theorem dX9_hear_55 : decode cX9_hear 55 = .ok (.invokevirtual 182, 3) := by decide +kernel
theorem dX9_hear_58 : decode cX9_hear 58 = .ok (.aload_n 0, 1) := by decide +kernel
theorem dX9_hear_59 : decode cX9_hear 59 = .ok (.getfield 43, 3) := by decide +kernel
theorem dX9_hear_62 : decode cX9_hear 62 = .ok (.bipush 6, 2) := by decide +kernel
theorem dX9_hear_64 : decode cX9_hear 64 = .ok (.iload_n 1, 1) := by decide +kernel
theorem dX9_hear_65 : decode cX9_hear 65 = .ok (.imul, 1) := by decide +kernel
theorem dX9_hear_66 : decode cX9_hear 66 = .ok (.aload_n 0, 1) := by decide +kernel
theorem dX9_hear_67 : decode cX9_hear 67 = .ok (.getfield 40, 3) := by decide +kernel
theorem dX9_hear_70 : decode cX9_hear 70 = .ok (.iload_n 1, 1) := by decide +kernel
theorem dX9_hear_71 : decode cX9_hear 71 = .ok (.iaload, 1) := by decide +kernel
theorem dX9_hear_72 : decode cX9_hear 72 = .ok (.iadd, 1) := by decide +kernel
theorem dX9_hear_73 : decode cX9_hear 73 = .ok (.iload_n 2, 1) := by decide +kernel
theorem dX9_hear_74 : decode cX9_hear 74 = .ok (.iastore, 1) := by decide +kernel
theorem dX9_hear_75 : decode cX9_hear 75 = .ok (.aload_n 0, 1) := by decide +kernel
theorem dX9_hear_76 : decode cX9_hear 76 = .ok (.getfield 40, 3) := by decide +kernel
theorem dX9_hear_79 : decode cX9_hear 79 = .ok (.iload_n 1, 1) := by decide +kernel
theorem dX9_hear_80 : decode cX9_hear 80 = .ok (.dup2, 1) := by decide +kernel
theorem dX9_hear_81 : decode cX9_hear 81 = .ok (.iaload, 1) := by decide +kernel
theorem dX9_hear_82 : decode cX9_hear 82 = .ok (.iconst 1, 1) := by decide +kernel
theorem dX9_hear_83 : decode cX9_hear 83 = .ok (.iadd, 1) := by decide +kernel
theorem dX9_hear_84 : decode cX9_hear 84 = .ok (.iastore, 1) := by decide +kernel
theorem dX9_hear_85 : decode cX9_hear 85 = .ok (.aload_n 0, 1) := by decide +kernel
theorem dX9_hear_86 : decode cX9_hear 86 = .ok (.iconst (-1), 1) := by decide +kernel
theorem dX9_hear_87 : decode cX9_hear 87 = .ok (.invokevirtual 185, 3) := by decide +kernel
theorem dX9_hear_90 : decode cX9_hear 90 = .ok (.ifCond .eq 12, 3) := by decide +kernel
theorem dX9_hear_93 : decode cX9_hear 93 = .ok (.aload_n 0, 1) := by decide +kernel
theorem dX9_hear_94 : decode cX9_hear 94 = .ok (.getfield 40, 3) := by decide +kernel
theorem dX9_hear_97 : decode cX9_hear 97 = .ok (.iload_n 1, 1) := by decide +kernel
theorem dX9_hear_98 : decode cX9_hear 98 = .ok (.iaload, 1) := by decide +kernel
theorem dX9_hear_99 : decode cX9_hear 99 = .ok (.goto 5, 3) := by decide +kernel
theorem dX9_hear_102 : decode cX9_hear 102 = .ok (.bipush (-5), 2) := by decide +kernel
theorem dX9_hear_104 : decode cX9_hear 104 = .ok (.ireturn, 1) := by decide +kernel
theorem dX9_enters_0 : decode cX9_enters 0 = .ok (.aload_n 0, 1) := by decide +kernel
theorem dX9_enters_1 : decode cX9_enters 1 = .ok (.getfield 72, 3) := by decide +kernel
theorem dX9_enters_4 : decode cX9_enters 4 = .ok (.aload_n 0, 1) := by decide +kernel
theorem dX9_enters_5 : decode cX9_enters 5 = .ok (.getfield 191, 3) := by decide +kernel
theorem dX9_enters_8 : decode cX9_enters 8 = .ok (.iload_n 1, 1) := by decide +kernel
theorem dX9_enters_9 : decode cX9_enters 9 = .ok (.iastore, 1) := by decide +kernel
theorem dX9_enters_10 : decode cX9_enters 10 = .ok (.aload_n 0, 1) := by decide +kernel
theorem dX9_enters_11 : decode cX9_enters 11 = .ok (.getfield 75, 3) := by decide +kernel
theorem dX9_enters_14 : decode cX9_enters 14 = .ok (.aload_n 0, 1) := by decide +kernel
theorem dX9_enters_15 : decode cX9_enters 15 = .ok (.getfield 191, 3) := by decide +kernel
theorem dX9_enters_18 : decode cX9_enters 18 = .ok (.iconst 0, 1) := by decide +kernel
theorem dX9_enters_19 : decode cX9_enters 19 = .ok (.iastore, 1) := by decide +kernel
theorem dX9_enters_20 : decode cX9_enters 20 = .ok (.aload_n 0, 1) := by decide +kernel
theorem dX9_enters_21 : decode cX9_enters 21 = .ok (.dup, 1) := by decide +kernel
theorem dX9_enters_22 : decode cX9_enters 22 = .ok (.getfield 191, 3) := by decide +kernel
theorem dX9_enters_25 : decode cX9_enters 25 = .ok (.iconst 1, 1) := by decide +kernel
theorem dX9_enters_26 : decode cX9_enters 26 = .ok (.iadd, 1) := by decide +kernel
theorem dX9_enters_27 : decode cX9_enters 27 = .ok (.putfield 191, 3) := by decide +kernel
theorem dX9_enters_30 : decode cX9_enters 30 = .ok (.aload_n 0, 1) := by decide +kernel
theorem dX9_enters_31 : decode cX9_enters 31 = .ok (.dup, 1) := by decide +kernel
theorem dX9_enters_32 : decode cX9_enters 32 = .ok (.getfield 194, 3) := by decide +kernel
theorem dX9_enters_35 : decode cX9_enters 35 = .ok (.iload_n 1, 1) := by decide +kernel
theorem dX9_enters_36 : decode cX9_enters 36 = .ok (.ifCond .lt 7, 3) := by decide +kernel
theorem dX9_enters_39 : decode cX9_enters 39 = .ok (.iconst 1, 1) := by decide +kernel
theorem dX9_enters_40 : decode cX9_enters 40 = .ok (.goto 4, 3) := by decide +kernel
theorem dX9_enters_43 : decode cX9_enters 43 = .ok (.iconst 0, 1) := by decide +kernel
theorem dX9_enters_44 : decode cX9_enters 44 = .ok (.iadd, 1) := by decide +kernel
theorem dX9_enters_45 : decode cX9_enters 45 = .ok (.putfield 194, 3) := by decide +kernel
theorem dX9_enters_48 : decode cX9_enters 48 = .ok (.return_, 1) := by decide +kernel
theorem dX9_calls_0 : decode cX9_calls 0 = .ok (.aload_n 0, 1) := by decide +kernel
theorem dX9_calls_1 : decode cX9_calls 1 = .ok (.getfield 194, 3) := by decide +kernel
theorem dX9_calls_4 : decode cX9_calls 4 = .ok (.bipush 30, 2) := by decide +kernel
theorem dX9_calls_6 : decode cX9_calls 6 = .ok (.if_icmp .ne 5, 3) := by decide +kernel
theorem dX9_calls_9 : decode cX9_calls 9 = .ok (.iconst 0, 1) := by decide +kernel
theorem dX9_calls_10 : decode cX9_calls 10 = .ok (.ireturn, 1) := by decide +kernel
theorem dX9_calls_11 : decode cX9_calls 11 = .ok (.aload_n 0, 1) := by decide +kernel
theorem dX9_calls_12 : decode cX9_calls 12 = .ok (.iload_n 1, 1) := by decide +kernel
theorem dX9_calls_13 : decode cX9_calls 13 = .ok (.invokevirtual 197, 3) := by decide +kernel
theorem dX9_calls_16 : decode cX9_calls 16 = .ok (.iconst 1, 1) := by decide +kernel
theorem dX9_calls_17 : decode cX9_calls 17 = .ok (.ireturn, 1) := by decide +kernel
theorem dX9_acts_0 : decode cX9_acts 0 = .ok (.aload_n 0, 1) := by decide +kernel
theorem dX9_acts_1 : decode cX9_acts 1 = .ok (.getfield 200, 3) := by decide +kernel
theorem dX9_acts_4 : decode cX9_acts 4 = .ok (.sipush 400, 3) := by decide +kernel
theorem dX9_acts_7 : decode cX9_acts 7 = .ok (.if_icmp .ne 5, 3) := by decide +kernel
theorem dX9_acts_10 : decode cX9_acts 10 = .ok (.iconst 0, 1) := by decide +kernel
theorem dX9_acts_11 : decode cX9_acts 11 = .ok (.ireturn, 1) := by decide +kernel
theorem dX9_acts_12 : decode cX9_acts 12 = .ok (.aload_n 0, 1) := by decide +kernel
theorem dX9_acts_13 : decode cX9_acts 13 = .ok (.dup, 1) := by decide +kernel
theorem dX9_acts_14 : decode cX9_acts 14 = .ok (.getfield 200, 3) := by decide +kernel
theorem dX9_acts_17 : decode cX9_acts 17 = .ok (.iconst 1, 1) := by decide +kernel
theorem dX9_acts_18 : decode cX9_acts 18 = .ok (.iadd, 1) := by decide +kernel
theorem dX9_acts_19 : decode cX9_acts 19 = .ok (.putfield 200, 3) := by decide +kernel
theorem dX9_acts_22 : decode cX9_acts 22 = .ok (.aload_n 0, 1) := by decide +kernel
theorem dX9_acts_23 : decode cX9_acts 23 = .ok (.getfield 31, 3) := by decide +kernel
theorem dX9_acts_26 : decode cX9_acts 26 = .ok (.iload_n 1, 1) := by decide +kernel
theorem dX9_acts_27 : decode cX9_acts 27 = .ok (.iaload, 1) := by decide +kernel
theorem dX9_acts_28 : decode cX9_acts 28 = .ok (.istore_n 2, 1) := by decide +kernel
theorem dX9_acts_29 : decode cX9_acts 29 = .ok (.aload_n 0, 1) := by decide +kernel
theorem dX9_acts_30 : decode cX9_acts 30 = .ok (.getfield 28, 3) := by decide +kernel
theorem dX9_acts_33 : decode cX9_acts 33 = .ok (.iload_n 1, 1) := by decide +kernel
theorem dX9_acts_34 : decode cX9_acts 34 = .ok (.iaload, 1) := by decide +kernel
theorem dX9_acts_35 : decode cX9_acts 35 = .ok (.tableswitch 131 0 5 #[37, 53, 69, 81, 102, 108], 37) := by decide +kernel
theorem dX9_acts_72 : decode cX9_acts 72 = .ok (.aload_n 0, 1) := by decide +kernel
theorem dX9_acts_73 : decode cX9_acts 73 = .ok (.aload_n 0, 1) := by decide +kernel
theorem dX9_acts_74 : decode cX9_acts 74 = .ok (.getfield 203, 3) := by decide +kernel
theorem dX9_acts_77 : decode cX9_acts 77 = .ok (.iload_n 2, 1) := by decide +kernel
theorem dX9_acts_78 : decode cX9_acts 78 = .ok (.iadd, 1) := by decide +kernel
theorem dX9_acts_79 : decode cX9_acts 79 = .ok (.sipush 9973, 3) := by decide +kernel
theorem dX9_acts_82 : decode cX9_acts 82 = .ok (.irem, 1) := by decide +kernel
theorem dX9_acts_83 : decode cX9_acts 83 = .ok (.putfield 203, 3) := by decide +kernel
theorem dX9_acts_86 : decode cX9_acts 86 = .ok (.iconst 1, 1) := by decide +kernel
theorem dX9_acts_87 : decode cX9_acts 87 = .ok (.ireturn, 1) := by decide +kernel
theorem dX9_acts_88 : decode cX9_acts 88 = .ok (.aload_n 0, 1) := by decide +kernel
theorem dX9_acts_89 : decode cX9_acts 89 = .ok (.aload_n 0, 1) := by decide +kernel
theorem dX9_acts_90 : decode cX9_acts 90 = .ok (.getfield 203, 3) := by decide +kernel
theorem dX9_acts_93 : decode cX9_acts 93 = .ok (.iload_n 2, 1) := by decide +kernel
theorem dX9_acts_94 : decode cX9_acts 94 = .ok (.imul, 1) := by decide +kernel
theorem dX9_acts_95 : decode cX9_acts 95 = .ok (.sipush 9973, 3) := by decide +kernel
theorem dX9_acts_98 : decode cX9_acts 98 = .ok (.irem, 1) := by decide +kernel
theorem dX9_acts_99 : decode cX9_acts 99 = .ok (.putfield 203, 3) := by decide +kernel
theorem dX9_acts_102 : decode cX9_acts 102 = .ok (.iconst 1, 1) := by decide +kernel
theorem dX9_acts_103 : decode cX9_acts 103 = .ok (.ireturn, 1) := by decide +kernel
theorem dX9_acts_104 : decode cX9_acts 104 = .ok (.aload_n 0, 1) := by decide +kernel
theorem dX9_acts_105 : decode cX9_acts 105 = .ok (.getfield 78, 3) := by decide +kernel
theorem dX9_acts_108 : decode cX9_acts 108 = .ok (.iload_n 2, 1) := by decide +kernel
theorem dX9_acts_109 : decode cX9_acts 109 = .ok (.aload_n 0, 1) := by decide +kernel
theorem dX9_acts_110 : decode cX9_acts 110 = .ok (.getfield 203, 3) := by decide +kernel
theorem dX9_acts_113 : decode cX9_acts 113 = .ok (.iastore, 1) := by decide +kernel
theorem dX9_acts_114 : decode cX9_acts 114 = .ok (.iconst 1, 1) := by decide +kernel
theorem dX9_acts_115 : decode cX9_acts 115 = .ok (.ireturn, 1) := by decide +kernel
theorem dX9_acts_116 : decode cX9_acts 116 = .ok (.aload_n 0, 1) := by decide +kernel
theorem dX9_acts_117 : decode cX9_acts 117 = .ok (.aload_n 0, 1) := by decide +kernel
theorem dX9_acts_118 : decode cX9_acts 118 = .ok (.getfield 203, 3) := by decide +kernel
theorem dX9_acts_121 : decode cX9_acts 121 = .ok (.aload_n 0, 1) := by decide +kernel
theorem dX9_acts_122 : decode cX9_acts 122 = .ok (.getfield 78, 3) := by decide +kernel
theorem dX9_acts_125 : decode cX9_acts 125 = .ok (.iload_n 2, 1) := by decide +kernel
theorem dX9_acts_126 : decode cX9_acts 126 = .ok (.iaload, 1) := by decide +kernel
theorem dX9_acts_127 : decode cX9_acts 127 = .ok (.iadd, 1) := by decide +kernel
theorem dX9_acts_128 : decode cX9_acts 128 = .ok (.sipush 9973, 3) := by decide +kernel
theorem dX9_acts_131 : decode cX9_acts 131 = .ok (.irem, 1) := by decide +kernel
theorem dX9_acts_132 : decode cX9_acts 132 = .ok (.putfield 203, 3) := by decide +kernel
theorem dX9_acts_135 : decode cX9_acts 135 = .ok (.iconst 1, 1) := by decide +kernel
theorem dX9_acts_136 : decode cX9_acts 136 = .ok (.ireturn, 1) := by decide +kernel
theorem dX9_acts_137 : decode cX9_acts 137 = .ok (.aload_n 0, 1) := by decide +kernel
theorem dX9_acts_138 : decode cX9_acts 138 = .ok (.iload_n 2, 1) := by decide +kernel
theorem dX9_acts_139 : decode cX9_acts 139 = .ok (.invokevirtual 206, 3) := by decide +kernel
theorem dX9_acts_142 : decode cX9_acts 142 = .ok (.ireturn, 1) := by decide +kernel
theorem dX9_acts_143 : decode cX9_acts 143 = .ok (.aload_n 0, 1) := by decide +kernel
theorem dX9_acts_144 : decode cX9_acts 144 = .ok (.getfield 203, 3) := by decide +kernel
theorem dX9_acts_147 : decode cX9_acts 147 = .ok (.iconst 2, 1) := by decide +kernel
theorem dX9_acts_148 : decode cX9_acts 148 = .ok (.irem, 1) := by decide +kernel
theorem dX9_acts_149 : decode cX9_acts 149 = .ok (.ifCond .eq 11, 3) := by decide +kernel
theorem dX9_acts_152 : decode cX9_acts 152 = .ok (.aload_n 0, 1) := by decide +kernel
theorem dX9_acts_153 : decode cX9_acts 153 = .ok (.iload_n 2, 1) := by decide +kernel
theorem dX9_acts_154 : decode cX9_acts 154 = .ok (.invokevirtual 206, 3) := by decide +kernel
theorem dX9_acts_157 : decode cX9_acts 157 = .ok (.ifCond .eq 7, 3) := by decide +kernel
theorem dX9_acts_160 : decode cX9_acts 160 = .ok (.iconst 1, 1) := by decide +kernel
theorem dX9_acts_161 : decode cX9_acts 161 = .ok (.goto 4, 3) := by decide +kernel
theorem dX9_acts_164 : decode cX9_acts 164 = .ok (.iconst 0, 1) := by decide +kernel
theorem dX9_acts_165 : decode cX9_acts 165 = .ok (.ireturn, 1) := by decide +kernel
theorem dX9_acts_166 : decode cX9_acts 166 = .ok (.aload_n 0, 1) := by decide +kernel
theorem dX9_acts_167 : decode cX9_acts 167 = .ok (.iconst (-1), 1) := by decide +kernel
theorem dX9_acts_168 : decode cX9_acts 168 = .ok (.iload_n 2, 1) := by decide +kernel
theorem dX9_acts_169 : decode cX9_acts 169 = .ok (.isub, 1) := by decide +kernel
theorem dX9_acts_170 : decode cX9_acts 170 = .ok (.invokevirtual 197, 3) := by decide +kernel
theorem dX9_acts_173 : decode cX9_acts 173 = .ok (.iconst 1, 1) := by decide +kernel
theorem dX9_acts_174 : decode cX9_acts 174 = .ok (.ireturn, 1) := by decide +kernel
theorem dX9_runs_0 : decode cX9_runs 0 = .ok (.aload_n 0, 1) := by decide +kernel
theorem dX9_runs_1 : decode cX9_runs 1 = .ok (.iconst 0, 1) := by decide +kernel
theorem dX9_runs_2 : decode cX9_runs 2 = .ok (.putfield 191, 3) := by decide +kernel
theorem dX9_runs_5 : decode cX9_runs 5 = .ok (.aload_n 0, 1) := by decide +kernel
theorem dX9_runs_6 : decode cX9_runs 6 = .ok (.iconst 0, 1) := by decide +kernel
theorem dX9_runs_7 : decode cX9_runs 7 = .ok (.putfield 194, 3) := by decide +kernel
theorem dX9_runs_10 : decode cX9_runs 10 = .ok (.aload_n 0, 1) := by decide +kernel
theorem dX9_runs_11 : decode cX9_runs 11 = .ok (.iconst 0, 1) := by decide +kernel
theorem dX9_runs_12 : decode cX9_runs 12 = .ok (.putfield 200, 3) := by decide +kernel
theorem dX9_runs_15 : decode cX9_runs 15 = .ok (.aload_n 0, 1) := by decide +kernel
theorem dX9_runs_16 : decode cX9_runs 16 = .ok (.iload_n 1, 1) := by decide +kernel
theorem dX9_runs_17 : decode cX9_runs 17 = .ok (.invokevirtual 206, 3) := by decide +kernel
theorem dX9_runs_20 : decode cX9_runs 20 = .ok (.istore_n 2, 1) := by decide +kernel
theorem dX9_runs_21 : decode cX9_runs 21 = .ok (.iload_n 2, 1) := by decide +kernel
theorem dX9_runs_22 : decode cX9_runs 22 = .ok (.ifCond .eq 151, 3) := by decide +kernel
theorem dX9_runs_25 : decode cX9_runs 25 = .ok (.aload_n 0, 1) := by decide +kernel
theorem dX9_runs_26 : decode cX9_runs 26 = .ok (.getfield 191, 3) := by decide +kernel
theorem dX9_runs_29 : decode cX9_runs 29 = .ok (.ifCond .le 144, 3) := by decide +kernel
theorem dX9_runs_32 : decode cX9_runs 32 = .ok (.aload_n 0, 1) := by decide +kernel
theorem dX9_runs_33 : decode cX9_runs 33 = .ok (.getfield 72, 3) := by decide +kernel
theorem dX9_runs_36 : decode cX9_runs 36 = .ok (.aload_n 0, 1) := by decide +kernel
theorem dX9_runs_37 : decode cX9_runs 37 = .ok (.getfield 191, 3) := by decide +kernel
theorem dX9_runs_40 : decode cX9_runs 40 = .ok (.iconst 1, 1) := by decide +kernel
theorem dX9_runs_41 : decode cX9_runs 41 = .ok (.isub, 1) := by decide +kernel
theorem dX9_runs_42 : decode cX9_runs 42 = .ok (.iaload, 1) := by decide +kernel
theorem dX9_runs_43 : decode cX9_runs 43 = .ok (.istore_n 3, 1) := by decide +kernel
theorem dX9_runs_44 : decode cX9_runs 44 = .ok (.aload_n 0, 1) := by decide +kernel
theorem dX9_runs_45 : decode cX9_runs 45 = .ok (.getfield 75, 3) := by decide +kernel
theorem dX9_runs_48 : decode cX9_runs 48 = .ok (.aload_n 0, 1) := by decide +kernel
theorem dX9_runs_49 : decode cX9_runs 49 = .ok (.getfield 191, 3) := by decide +kernel
theorem dX9_runs_52 : decode cX9_runs 52 = .ok (.iconst 1, 1) := by decide +kernel
theorem dX9_runs_53 : decode cX9_runs 53 = .ok (.isub, 1) := by decide +kernel
theorem dX9_runs_54 : decode cX9_runs 54 = .ok (.iaload, 1) := by decide +kernel
theorem dX9_runs_55 : decode cX9_runs 55 = .ok (.istore 4, 2) := by decide +kernel
theorem dX9_runs_57 : decode cX9_runs 57 = .ok (.iload_n 3, 1) := by decide +kernel
theorem dX9_runs_58 : decode cX9_runs 58 = .ok (.ifCond .lt 12, 3) := by decide +kernel
theorem dX9_runs_61 : decode cX9_runs 61 = .ok (.aload_n 0, 1) := by decide +kernel
theorem dX9_runs_62 : decode cX9_runs 62 = .ok (.getfield 25, 3) := by decide +kernel
theorem dX9_runs_65 : decode cX9_runs 65 = .ok (.iload_n 3, 1) := by decide +kernel
theorem dX9_runs_66 : decode cX9_runs 66 = .ok (.iaload, 1) := by decide +kernel
theorem dX9_runs_67 : decode cX9_runs 67 = .ok (.goto 11, 3) := by decide +kernel
theorem dX9_runs_70 : decode cX9_runs 70 = .ok (.aload_n 0, 1) := by decide +kernel
theorem dX9_runs_71 : decode cX9_runs 71 = .ok (.getfield 40, 3) := by decide +kernel
theorem dX9_runs_74 : decode cX9_runs 74 = .ok (.iconst (-1), 1) := by decide +kernel
theorem dX9_runs_75 : decode cX9_runs 75 = .ok (.iload_n 3, 1) := by decide +kernel
theorem dX9_runs_76 : decode cX9_runs 76 = .ok (.isub, 1) := by decide +kernel
theorem dX9_runs_77 : decode cX9_runs 77 = .ok (.iaload, 1) := by decide +kernel
theorem dX9_runs_78 : decode cX9_runs 78 = .ok (.istore 5, 2) := by decide +kernel
theorem dX9_runs_80 : decode cX9_runs 80 = .ok (.iload 4, 2) := by decide +kernel
theorem dX9_runs_82 : decode cX9_runs 82 = .ok (.iload 5, 2) := by decide +kernel
theorem dX9_runs_84 : decode cX9_runs 84 = .ok (.if_icmp .ne 34, 3) := by decide +kernel
theorem dX9_runs_87 : decode cX9_runs 87 = .ok (.aload_n 0, 1) := by decide +kernel
theorem dX9_runs_88 : decode cX9_runs 88 = .ok (.dup, 1) := by decide +kernel
theorem dX9_runs_89 : decode cX9_runs 89 = .ok (.getfield 191, 3) := by decide +kernel
theorem dX9_runs_92 : decode cX9_runs 92 = .ok (.iconst 1, 1) := by decide +kernel
theorem dX9_runs_93 : decode cX9_runs 93 = .ok (.isub, 1) := by decide +kernel
theorem dX9_runs_94 : decode cX9_runs 94 = .ok (.putfield 191, 3) := by decide +kernel
theorem dX9_runs_97 : decode cX9_runs 97 = .ok (.aload_n 0, 1) := by decide +kernel
theorem dX9_runs_98 : decode cX9_runs 98 = .ok (.dup, 1) := by decide +kernel
theorem dX9_runs_99 : decode cX9_runs 99 = .ok (.getfield 194, 3) := by decide +kernel
theorem dX9_runs_102 : decode cX9_runs 102 = .ok (.iload_n 3, 1) := by decide +kernel
theorem dX9_runs_103 : decode cX9_runs 103 = .ok (.ifCond .lt 7, 3) := by decide +kernel
theorem dX9_runs_106 : decode cX9_runs 106 = .ok (.iconst 1, 1) := by decide +kernel
theorem dX9_runs_107 : decode cX9_runs 107 = .ok (.goto 4, 3) := by decide +kernel
theorem dX9_runs_110 : decode cX9_runs 110 = .ok (.iconst 0, 1) := by decide +kernel
theorem dX9_runs_111 : decode cX9_runs 111 = .ok (.isub, 1) := by decide +kernel
theorem dX9_runs_112 : decode cX9_runs 112 = .ok (.putfield 194, 3) := by decide +kernel
theorem dX9_runs_115 : decode cX9_runs 115 = .ok (.goto 55, 3) := by decide +kernel
theorem dX9_runs_118 : decode cX9_runs 118 = .ok (.aload_n 0, 1) := by decide +kernel
theorem dX9_runs_119 : decode cX9_runs 119 = .ok (.getfield 75, 3) := by decide +kernel
theorem dX9_runs_122 : decode cX9_runs 122 = .ok (.aload_n 0, 1) := by decide +kernel
theorem dX9_runs_123 : decode cX9_runs 123 = .ok (.getfield 191, 3) := by decide +kernel
theorem dX9_runs_126 : decode cX9_runs 126 = .ok (.iconst 1, 1) := by decide +kernel
theorem dX9_runs_127 : decode cX9_runs 127 = .ok (.isub, 1) := by decide +kernel
theorem dX9_runs_128 : decode cX9_runs 128 = .ok (.dup2, 1) := by decide +kernel
theorem dX9_runs_129 : decode cX9_runs 129 = .ok (.iaload, 1) := by decide +kernel
theorem dX9_runs_130 : decode cX9_runs 130 = .ok (.iconst 1, 1) := by decide +kernel
theorem dX9_runs_131 : decode cX9_runs 131 = .ok (.iadd, 1) := by decide +kernel
theorem dX9_runs_132 : decode cX9_runs 132 = .ok (.iastore, 1) := by decide +kernel
theorem dX9_runs_133 : decode cX9_runs 133 = .ok (.iload_n 3, 1) := by decide +kernel
theorem dX9_runs_134 : decode cX9_runs 134 = .ok (.ifCond .lt 17, 3) := by decide +kernel
theorem dX9_runs_137 : decode cX9_runs 137 = .ok (.aload_n 0, 1) := by decide +kernel
theorem dX9_runs_138 : decode cX9_runs 138 = .ok (.bipush 10, 2) := by decide +kernel
theorem dX9_runs_140 : decode cX9_runs 140 = .ok (.iload_n 3, 1) := by decide +kernel
theorem dX9_runs_141 : decode cX9_runs 141 = .ok (.imul, 1) := by decide +kernel
theorem dX9_runs_142 : decode cX9_runs 142 = .ok (.iload 4, 2) := by decide +kernel
theorem dX9_runs_144 : decode cX9_runs 144 = .ok (.iadd, 1) := by decide +kernel
theorem dX9_runs_145 : decode cX9_runs 145 = .ok (.invokevirtual 209, 3) := by decide +kernel
theorem dX9_runs_148 : decode cX9_runs 148 = .ok (.goto 21, 3) := by decide +kernel
theorem dX9_runs_151 : decode cX9_runs 151 = .ok (.aload_n 0, 1) := by decide +kernel
theorem dX9_runs_152 : decode cX9_runs 152 = .ok (.aload_n 0, 1) := by decide +kernel
theorem dX9_runs_153 : decode cX9_runs 153 = .ok (.getfield 43, 3) := by decide +kernel
theorem dX9_runs_156 : decode cX9_runs 156 = .ok (.bipush 6, 2) := by decide +kernel
theorem dX9_runs_158 : decode cX9_runs 158 = .ok (.iconst (-1), 1) := by decide +kernel
theorem dX9_runs_159 : decode cX9_runs 159 = .ok (.iload_n 3, 1) := by decide +kernel
theorem dX9_runs_160 : decode cX9_runs 160 = .ok (.isub, 1) := by decide +kernel
theorem dX9_runs_161 : decode cX9_runs 161 = .ok (.imul, 1) := by decide +kernel
theorem dX9_runs_162 : decode cX9_runs 162 = .ok (.iload 4, 2) := by decide +kernel
theorem dX9_runs_164 : decode cX9_runs 164 = .ok (.iadd, 1) := by decide +kernel
theorem dX9_runs_165 : decode cX9_runs 165 = .ok (.iaload, 1) := by decide +kernel
theorem dX9_runs_166 : decode cX9_runs 166 = .ok (.invokevirtual 206, 3) := by decide +kernel
theorem dX9_runs_169 : decode cX9_runs 169 = .ok (.istore_n 2, 1) := by decide +kernel
theorem dX9_runs_170 : decode cX9_runs 170 = .ok (.goto (-149), 3) := by decide +kernel
theorem dX9_runs_173 : decode cX9_runs 173 = .ok (.iload_n 2, 1) := by decide +kernel
theorem dX9_runs_174 : decode cX9_runs 174 = .ok (.ireturn, 1) := by decide +kernel
theorem dX9_run_0 : decode cX9_run 0 = .ok (.aload_n 0, 1) := by decide +kernel
theorem dX9_run_1 : decode cX9_run 1 = .ok (.iload_n 1, 1) := by decide +kernel
theorem dX9_run_2 : decode cX9_run 2 = .ok (.invokevirtual 172, 3) := by decide +kernel
theorem dX9_run_5 : decode cX9_run 5 = .ok (.ifCond .ne 5, 3) := by decide +kernel
theorem dX9_run_8 : decode cX9_run 8 = .ok (.iconst (-1), 1) := by decide +kernel
theorem dX9_run_9 : decode cX9_run 9 = .ok (.ireturn, 1) := by decide +kernel
theorem dX9_run_10 : decode cX9_run 10 = .ok (.iload_n 2, 1) := by decide +kernel
theorem dX9_run_11 : decode cX9_run 11 = .ok (.iconst 0, 1) := by decide +kernel
theorem dX9_run_12 : decode cX9_run 12 = .ok (.sipush 9972, 3) := by decide +kernel
theorem dX9_run_15 : decode cX9_run 15 = .ok (.invokestatic 117, 3) := by decide +kernel
theorem dX9_run_18 : decode cX9_run 18 = .ok (.ifCond .ne 6, 3) := by decide +kernel
theorem dX9_run_21 : decode cX9_run 21 = .ok (.bipush (-2), 2) := by decide +kernel
theorem dX9_run_23 : decode cX9_run 23 = .ok (.ireturn, 1) := by decide +kernel
theorem dX9_run_24 : decode cX9_run 24 = .ok (.iconst 0, 1) := by decide +kernel
theorem dX9_run_25 : decode cX9_run 25 = .ok (.istore_n 3, 1) := by decide +kernel
theorem dX9_run_26 : decode cX9_run 26 = .ok (.iload_n 3, 1) := by decide +kernel
theorem dX9_run_27 : decode cX9_run 27 = .ok (.bipush 10, 2) := by decide +kernel
theorem dX9_run_29 : decode cX9_run 29 = .ok (.if_icmp .ge 16, 3) := by decide +kernel
theorem dX9_run_32 : decode cX9_run 32 = .ok (.aload_n 0, 1) := by decide +kernel
theorem dX9_run_33 : decode cX9_run 33 = .ok (.getfield 78, 3) := by decide +kernel
theorem dX9_run_36 : decode cX9_run 36 = .ok (.iload_n 3, 1) := by decide +kernel
theorem dX9_run_37 : decode cX9_run 37 = .ok (.iconst 0, 1) := by decide +kernel
theorem dX9_run_38 : decode cX9_run 38 = .ok (.iastore, 1) := by decide +kernel
theorem dX9_run_39 : decode cX9_run 39 = .ok (.iinc 3 1, 3) := by decide +kernel
theorem dX9_run_42 : decode cX9_run 42 = .ok (.goto (-16), 3) := by decide +kernel
theorem dX9_run_45 : decode cX9_run 45 = .ok (.aload_n 0, 1) := by decide +kernel
theorem dX9_run_46 : decode cX9_run 46 = .ok (.iload_n 2, 1) := by decide +kernel
theorem dX9_run_47 : decode cX9_run 47 = .ok (.putfield 203, 3) := by decide +kernel
theorem dX9_run_50 : decode cX9_run 50 = .ok (.aload_n 0, 1) := by decide +kernel
theorem dX9_run_51 : decode cX9_run 51 = .ok (.iload_n 1, 1) := by decide +kernel
theorem dX9_run_52 : decode cX9_run 52 = .ok (.invokevirtual 211, 3) := by decide +kernel
theorem dX9_run_55 : decode cX9_run 55 = .ok (.ifCond .ne 6, 3) := by decide +kernel
theorem dX9_run_58 : decode cX9_run 58 = .ok (.bipush (-6), 2) := by decide +kernel
theorem dX9_run_60 : decode cX9_run 60 = .ok (.ireturn, 1) := by decide +kernel
theorem dX9_run_61 : decode cX9_run 61 = .ok (.aload_n 0, 1) := by decide +kernel
theorem dX9_run_62 : decode cX9_run 62 = .ok (.aload_n 0, 1) := by decide +kernel
theorem dX9_run_63 : decode cX9_run 63 = .ok (.getfield 200, 3) := by decide +kernel
theorem dX9_run_66 : decode cX9_run 66 = .ok (.putfield 214, 3) := by decide +kernel
theorem dX9_run_69 : decode cX9_run 69 = .ok (.aload_n 0, 1) := by decide +kernel
theorem dX9_run_70 : decode cX9_run 70 = .ok (.getfield 203, 3) := by decide +kernel
theorem dX9_run_73 : decode cX9_run 73 = .ok (.ireturn, 1) := by decide +kernel
theorem dX9_done_0 : decode cX9_done 0 = .ok (.aload_n 0, 1) := by decide +kernel
theorem dX9_done_1 : decode cX9_done 1 = .ok (.getfield 214, 3) := by decide +kernel
theorem dX9_done_4 : decode cX9_done 4 = .ok (.ireturn, 1) := by decide +kernel
theorem dX9_price_0 : decode cX9_price 0 = .ok (.iload_n 1, 1) := by decide +kernel
theorem dX9_price_1 : decode cX9_price 1 = .ok (.iconst 0, 1) := by decide +kernel
theorem dX9_price_2 : decode cX9_price 2 = .ok (.iconst 3, 1) := by decide +kernel
theorem dX9_price_3 : decode cX9_price 3 = .ok (.invokestatic 117, 3) := by decide +kernel
theorem dX9_price_6 : decode cX9_price 6 = .ok (.ifCond .ne 5, 3) := by decide +kernel
theorem dX9_price_9 : decode cX9_price 9 = .ok (.iconst (-1), 1) := by decide +kernel
theorem dX9_price_10 : decode cX9_price 10 = .ok (.ireturn, 1) := by decide +kernel
theorem dX9_price_11 : decode cX9_price 11 = .ok (.iload_n 2, 1) := by decide +kernel
theorem dX9_price_12 : decode cX9_price 12 = .ok (.iconst 0, 1) := by decide +kernel
theorem dX9_price_13 : decode cX9_price 13 = .ok (.bipush 99, 2) := by decide +kernel
theorem dX9_price_15 : decode cX9_price 15 = .ok (.invokestatic 117, 3) := by decide +kernel
theorem dX9_price_18 : decode cX9_price 18 = .ok (.ifCond .ne 6, 3) := by decide +kernel
theorem dX9_price_21 : decode cX9_price 21 = .ok (.bipush (-2), 2) := by decide +kernel
theorem dX9_price_23 : decode cX9_price 23 = .ok (.ireturn, 1) := by decide +kernel
theorem dX9_price_24 : decode cX9_price 24 = .ok (.aload_n 0, 1) := by decide +kernel
theorem dX9_price_25 : decode cX9_price 25 = .ok (.getfield 56, 3) := by decide +kernel
theorem dX9_price_28 : decode cX9_price 28 = .ok (.iload_n 1, 1) := by decide +kernel
theorem dX9_price_29 : decode cX9_price 29 = .ok (.iaload, 1) := by decide +kernel
theorem dX9_price_30 : decode cX9_price 30 = .ok (.istore_n 3, 1) := by decide +kernel
theorem dX9_price_31 : decode cX9_price 31 = .ok (.aload_n 0, 1) := by decide +kernel
theorem dX9_price_32 : decode cX9_price 32 = .ok (.getfield 56, 3) := by decide +kernel
theorem dX9_price_35 : decode cX9_price 35 = .ok (.iload_n 1, 1) := by decide +kernel
theorem dX9_price_36 : decode cX9_price 36 = .ok (.iload_n 2, 1) := by decide +kernel
theorem dX9_price_37 : decode cX9_price 37 = .ok (.iastore, 1) := by decide +kernel
theorem dX9_price_38 : decode cX9_price 38 = .ok (.iload_n 3, 1) := by decide +kernel
theorem dX9_price_39 : decode cX9_price 39 = .ok (.ireturn, 1) := by decide +kernel
theorem dX9_needs_0 : decode cX9_needs 0 = .ok (.iload_n 1, 1) := by decide +kernel
theorem dX9_needs_1 : decode cX9_needs 1 = .ok (.iload_n 2, 1) := by decide +kernel
theorem dX9_needs_2 : decode cX9_needs 2 = .ok (.if_icmp .eq 56, 3) := by decide +kernel
theorem dX9_needs_5 : decode cX9_needs 5 = .ok (.aload_n 0, 1) := by decide +kernel
theorem dX9_needs_6 : decode cX9_needs 6 = .ok (.getfield 46, 3) := by decide +kernel
theorem dX9_needs_9 : decode cX9_needs 9 = .ok (.bipush 10, 2) := by decide +kernel
theorem dX9_needs_11 : decode cX9_needs 11 = .ok (.iload_n 1, 1) := by decide +kernel
theorem dX9_needs_12 : decode cX9_needs 12 = .ok (.imul, 1) := by decide +kernel
theorem dX9_needs_13 : decode cX9_needs 13 = .ok (.iload_n 2, 1) := by decide +kernel
theorem dX9_needs_14 : decode cX9_needs 14 = .ok (.iadd, 1) := by decide +kernel
theorem dX9_needs_15 : decode cX9_needs 15 = .ok (.iaload, 1) := by decide +kernel
theorem dX9_needs_16 : decode cX9_needs 16 = .ok (.aload_n 0, 1) := by decide +kernel
theorem dX9_needs_17 : decode cX9_needs 17 = .ok (.getfield 217, 3) := by decide +kernel
theorem dX9_needs_20 : decode cX9_needs 20 = .ok (.if_icmp .gt 38, 3) := by decide +kernel
theorem dX9_needs_23 : decode cX9_needs 23 = .ok (.aload_n 0, 1) := by decide +kernel
theorem dX9_needs_24 : decode cX9_needs 24 = .ok (.getfield 81, 3) := by decide +kernel
theorem dX9_needs_27 : decode cX9_needs 27 = .ok (.bipush 10, 2) := by decide +kernel
theorem dX9_needs_29 : decode cX9_needs 29 = .ok (.iload_n 1, 1) := by decide +kernel
theorem dX9_needs_30 : decode cX9_needs 30 = .ok (.imul, 1) := by decide +kernel
theorem dX9_needs_31 : decode cX9_needs 31 = .ok (.iload_n 2, 1) := by decide +kernel
theorem dX9_needs_32 : decode cX9_needs 32 = .ok (.iadd, 1) := by decide +kernel
theorem dX9_needs_33 : decode cX9_needs 33 = .ok (.dup2, 1) := by decide +kernel
theorem dX9_needs_34 : decode cX9_needs 34 = .ok (.iaload, 1) := by decide +kernel
theorem dX9_needs_35 : decode cX9_needs 35 = .ok (.iconst 1, 1) := by decide +kernel
theorem dX9_needs_36 : decode cX9_needs 36 = .ok (.iadd, 1) := by decide +kernel
theorem dX9_needs_37 : decode cX9_needs 37 = .ok (.iastore, 1) := by decide +kernel
theorem dX9_needs_38 : decode cX9_needs 38 = .ok (.aload_n 0, 1) := by decide +kernel
theorem dX9_needs_39 : decode cX9_needs 39 = .ok (.getfield 84, 3) := by decide +kernel
theorem dX9_needs_42 : decode cX9_needs 42 = .ok (.bipush 10, 2) := by decide +kernel
theorem dX9_needs_44 : decode cX9_needs 44 = .ok (.iload_n 1, 1) := by decide +kernel
theorem dX9_needs_45 : decode cX9_needs 45 = .ok (.imul, 1) := by decide +kernel
theorem dX9_needs_46 : decode cX9_needs 46 = .ok (.iload_n 2, 1) := by decide +kernel
theorem dX9_needs_47 : decode cX9_needs 47 = .ok (.iadd, 1) := by decide +kernel
theorem dX9_needs_48 : decode cX9_needs 48 = .ok (.dup2, 1) := by decide +kernel
theorem dX9_needs_49 : decode cX9_needs 49 = .ok (.iaload, 1) := by decide +kernel
theorem dX9_needs_50 : decode cX9_needs 50 = .ok (.aload_n 0, 1) := by decide +kernel
theorem dX9_needs_51 : decode cX9_needs 51 = .ok (.getfield 56, 3) := by decide +kernel
theorem dX9_needs_54 : decode cX9_needs 54 = .ok (.iload_n 3, 1) := by decide +kernel
theorem dX9_needs_55 : decode cX9_needs 55 = .ok (.iaload, 1) := by decide +kernel
theorem dX9_needs_56 : decode cX9_needs 56 = .ok (.iadd, 1) := by decide +kernel
theorem dX9_needs_57 : decode cX9_needs 57 = .ok (.iastore, 1) := by decide +kernel
theorem dX9_needs_58 : decode cX9_needs 58 = .ok (.return_, 1) := by decide +kernel
theorem dX9_ties_0 : decode cX9_ties 0 = .ok (.iconst 0, 1) := by decide +kernel
theorem dX9_ties_1 : decode cX9_ties 1 = .ok (.istore_n 1, 1) := by decide +kernel
theorem dX9_ties_2 : decode cX9_ties 2 = .ok (.iload_n 1, 1) := by decide +kernel
theorem dX9_ties_3 : decode cX9_ties 3 = .ok (.bipush 100, 2) := by decide +kernel
theorem dX9_ties_5 : decode cX9_ties 5 = .ok (.if_icmp .ge 23, 3) := by decide +kernel
theorem dX9_ties_8 : decode cX9_ties 8 = .ok (.aload_n 0, 1) := by decide +kernel
theorem dX9_ties_9 : decode cX9_ties 9 = .ok (.getfield 81, 3) := by decide +kernel
theorem dX9_ties_12 : decode cX9_ties 12 = .ok (.iload_n 1, 1) := by decide +kernel
theorem dX9_ties_13 : decode cX9_ties 13 = .ok (.iconst 0, 1) := by decide +kernel
theorem dX9_ties_14 : decode cX9_ties 14 = .ok (.iastore, 1) := by decide +kernel
theorem dX9_ties_15 : decode cX9_ties 15 = .ok (.aload_n 0, 1) := by decide +kernel
theorem dX9_ties_16 : decode cX9_ties 16 = .ok (.getfield 84, 3) := by decide +kernel
theorem dX9_ties_19 : decode cX9_ties 19 = .ok (.iload_n 1, 1) := by decide +kernel
theorem dX9_ties_20 : decode cX9_ties 20 = .ok (.iconst 0, 1) := by decide +kernel
theorem dX9_ties_21 : decode cX9_ties 21 = .ok (.iastore, 1) := by decide +kernel
theorem dX9_ties_22 : decode cX9_ties 22 = .ok (.iinc 1 1, 3) := by decide +kernel
theorem dX9_ties_25 : decode cX9_ties 25 = .ok (.goto (-23), 3) := by decide +kernel
theorem dX9_ties_28 : decode cX9_ties 28 = .ok (.iconst 0, 1) := by decide +kernel
theorem dX9_ties_29 : decode cX9_ties 29 = .ok (.istore_n 1, 1) := by decide +kernel
theorem dX9_ties_30 : decode cX9_ties 30 = .ok (.iload_n 1, 1) := by decide +kernel
theorem dX9_ties_31 : decode cX9_ties 31 = .ok (.aload_n 0, 1) := by decide +kernel
theorem dX9_ties_32 : decode cX9_ties 32 = .ok (.getfield 13, 3) := by decide +kernel
theorem dX9_ties_35 : decode cX9_ties 35 = .ok (.iconst 0, 1) := by decide +kernel
theorem dX9_ties_36 : decode cX9_ties 36 = .ok (.iaload, 1) := by decide +kernel
theorem dX9_ties_37 : decode cX9_ties 37 = .ok (.if_icmp .ge 167, 3) := by decide +kernel
theorem dX9_ties_40 : decode cX9_ties 40 = .ok (.aload_n 0, 1) := by decide +kernel
theorem dX9_ties_41 : decode cX9_ties 41 = .ok (.getfield 22, 3) := by decide +kernel
theorem dX9_ties_44 : decode cX9_ties 44 = .ok (.iload_n 1, 1) := by decide +kernel
theorem dX9_ties_45 : decode cX9_ties 45 = .ok (.iaload, 1) := by decide +kernel
theorem dX9_ties_46 : decode cX9_ties 46 = .ok (.istore_n 2, 1) := by decide +kernel
theorem dX9_ties_47 : decode cX9_ties 47 = .ok (.bipush 10, 2) := by decide +kernel
theorem dX9_ties_49 : decode cX9_ties 49 = .ok (.iload_n 1, 1) := by decide +kernel
theorem dX9_ties_50 : decode cX9_ties 50 = .ok (.imul, 1) := by decide +kernel
theorem dX9_ties_51 : decode cX9_ties 51 = .ok (.istore_n 3, 1) := by decide +kernel
theorem dX9_ties_52 : decode cX9_ties 52 = .ok (.iload_n 3, 1) := by decide +kernel
theorem dX9_ties_53 : decode cX9_ties 53 = .ok (.bipush 10, 2) := by decide +kernel
theorem dX9_ties_55 : decode cX9_ties 55 = .ok (.iload_n 1, 1) := by decide +kernel
theorem dX9_ties_56 : decode cX9_ties 56 = .ok (.imul, 1) := by decide +kernel
theorem dX9_ties_57 : decode cX9_ties 57 = .ok (.aload_n 0, 1) := by decide +kernel
theorem dX9_ties_58 : decode cX9_ties 58 = .ok (.getfield 25, 3) := by decide +kernel
theorem dX9_ties_61 : decode cX9_ties 61 = .ok (.iload_n 1, 1) := by decide +kernel
theorem dX9_ties_62 : decode cX9_ties 62 = .ok (.iaload, 1) := by decide +kernel
theorem dX9_ties_63 : decode cX9_ties 63 = .ok (.iadd, 1) := by decide +kernel
theorem dX9_ties_64 : decode cX9_ties 64 = .ok (.if_icmp .ge 134, 3) := by decide +kernel
theorem dX9_ties_67 : decode cX9_ties 67 = .ok (.aload_n 0, 1) := by decide +kernel
theorem dX9_ties_68 : decode cX9_ties 68 = .ok (.getfield 28, 3) := by decide +kernel
theorem dX9_ties_71 : decode cX9_ties 71 = .ok (.iload_n 3, 1) := by decide +kernel
theorem dX9_ties_72 : decode cX9_ties 72 = .ok (.iaload, 1) := by decide +kernel
theorem dX9_ties_73 : decode cX9_ties 73 = .ok (.istore 4, 2) := by decide +kernel
theorem dX9_ties_75 : decode cX9_ties 75 = .ok (.aload_n 0, 1) := by decide +kernel
theorem dX9_ties_76 : decode cX9_ties 76 = .ok (.getfield 49, 3) := by decide +kernel
theorem dX9_ties_79 : decode cX9_ties 79 = .ok (.iload_n 1, 1) := by decide +kernel
theorem dX9_ties_80 : decode cX9_ties 80 = .ok (.baload, 1) := by decide +kernel
theorem dX9_ties_81 : decode cX9_ties 81 = .ok (.ifCond .eq 23, 3) := by decide +kernel
theorem dX9_ties_84 : decode cX9_ties 84 = .ok (.aload_n 0, 1) := by decide +kernel
theorem dX9_ties_85 : decode cX9_ties 85 = .ok (.aload_n 0, 1) := by decide +kernel
theorem dX9_ties_86 : decode cX9_ties 86 = .ok (.getfield 22, 3) := by decide +kernel
theorem dX9_ties_89 : decode cX9_ties 89 = .ok (.aload_n 0, 1) := by decide +kernel
theorem dX9_ties_90 : decode cX9_ties 90 = .ok (.getfield 31, 3) := by decide +kernel
theorem dX9_ties_93 : decode cX9_ties 93 = .ok (.iload_n 3, 1) := by decide +kernel
theorem dX9_ties_94 : decode cX9_ties 94 = .ok (.iaload, 1) := by decide +kernel
theorem dX9_ties_95 : decode cX9_ties 95 = .ok (.iaload, 1) := by decide +kernel
theorem dX9_ties_96 : decode cX9_ties 96 = .ok (.iload_n 2, 1) := by decide +kernel
theorem dX9_ties_97 : decode cX9_ties 97 = .ok (.iconst 3, 1) := by decide +kernel
theorem dX9_ties_98 : decode cX9_ties 98 = .ok (.invokevirtual 220, 3) := by decide +kernel
theorem dX9_ties_101 : decode cX9_ties 101 = .ok (.goto 91, 3) := by decide +kernel
theorem dX9_ties_104 : decode cX9_ties 104 = .ok (.iload 4, 2) := by decide +kernel
theorem dX9_ties_106 : decode cX9_ties 106 = .ok (.iconst 4, 1) := by decide +kernel
theorem dX9_ties_107 : decode cX9_ties 107 = .ok (.if_icmp .eq 9, 3) := by decide +kernel
theorem dX9_ties_110 : decode cX9_ties 110 = .ok (.iload 4, 2) := by decide +kernel
theorem dX9_ties_112 : decode cX9_ties 112 = .ok (.iconst 5, 1) := by decide +kernel
theorem dX9_ties_113 : decode cX9_ties 113 = .ok (.if_icmp .ne 23, 3) := by decide +kernel
theorem dX9_ties_116 : decode cX9_ties 116 = .ok (.aload_n 0, 1) := by decide +kernel
theorem dX9_ties_117 : decode cX9_ties 117 = .ok (.iload_n 2, 1) := by decide +kernel
theorem dX9_ties_118 : decode cX9_ties 118 = .ok (.aload_n 0, 1) := by decide +kernel
theorem dX9_ties_119 : decode cX9_ties 119 = .ok (.getfield 22, 3) := by decide +kernel
theorem dX9_ties_122 : decode cX9_ties 122 = .ok (.aload_n 0, 1) := by decide +kernel
theorem dX9_ties_123 : decode cX9_ties 123 = .ok (.getfield 31, 3) := by decide +kernel
theorem dX9_ties_126 : decode cX9_ties 126 = .ok (.iload_n 3, 1) := by decide +kernel
theorem dX9_ties_127 : decode cX9_ties 127 = .ok (.iaload, 1) := by decide +kernel
theorem dX9_ties_128 : decode cX9_ties 128 = .ok (.iaload, 1) := by decide +kernel
theorem dX9_ties_129 : decode cX9_ties 129 = .ok (.iconst 0, 1) := by decide +kernel
theorem dX9_ties_130 : decode cX9_ties 130 = .ok (.invokevirtual 220, 3) := by decide +kernel
theorem dX9_ties_133 : decode cX9_ties 133 = .ok (.goto 59, 3) := by decide +kernel
theorem dX9_ties_136 : decode cX9_ties 136 = .ok (.iload 4, 2) := by decide +kernel
theorem dX9_ties_138 : decode cX9_ties 138 = .ok (.iconst 2, 1) := by decide +kernel
theorem dX9_ties_139 : decode cX9_ties 139 = .ok (.if_icmp .eq 9, 3) := by decide +kernel
theorem dX9_ties_142 : decode cX9_ties 142 = .ok (.iload 4, 2) := by decide +kernel
theorem dX9_ties_144 : decode cX9_ties 144 = .ok (.iconst 3, 1) := by decide +kernel
theorem dX9_ties_145 : decode cX9_ties 145 = .ok (.if_icmp .ne 23, 3) := by decide +kernel
theorem dX9_ties_148 : decode cX9_ties 148 = .ok (.aload_n 0, 1) := by decide +kernel
theorem dX9_ties_149 : decode cX9_ties 149 = .ok (.iload_n 2, 1) := by decide +kernel
theorem dX9_ties_150 : decode cX9_ties 150 = .ok (.aload_n 0, 1) := by decide +kernel
theorem dX9_ties_151 : decode cX9_ties 151 = .ok (.getfield 34, 3) := by decide +kernel
theorem dX9_ties_154 : decode cX9_ties 154 = .ok (.aload_n 0, 1) := by decide +kernel
theorem dX9_ties_155 : decode cX9_ties 155 = .ok (.getfield 31, 3) := by decide +kernel
theorem dX9_ties_158 : decode cX9_ties 158 = .ok (.iload_n 3, 1) := by decide +kernel
theorem dX9_ties_159 : decode cX9_ties 159 = .ok (.iaload, 1) := by decide +kernel
theorem dX9_ties_160 : decode cX9_ties 160 = .ok (.iaload, 1) := by decide +kernel
theorem dX9_ties_161 : decode cX9_ties 161 = .ok (.iconst 1, 1) := by decide +kernel
theorem dX9_ties_162 : decode cX9_ties 162 = .ok (.invokevirtual 220, 3) := by decide +kernel
theorem dX9_ties_165 : decode cX9_ties 165 = .ok (.goto 27, 3) := by decide +kernel
theorem dX9_ties_168 : decode cX9_ties 168 = .ok (.iload 4, 2) := by decide +kernel
theorem dX9_ties_170 : decode cX9_ties 170 = .ok (.bipush 6, 2) := by decide +kernel
theorem dX9_ties_172 : decode cX9_ties 172 = .ok (.if_icmp .ne 20, 3) := by decide +kernel
theorem dX9_ties_175 : decode cX9_ties 175 = .ok (.aload_n 0, 1) := by decide +kernel
theorem dX9_ties_176 : decode cX9_ties 176 = .ok (.iload_n 2, 1) := by decide +kernel
theorem dX9_ties_177 : decode cX9_ties 177 = .ok (.aload_n 0, 1) := by decide +kernel
theorem dX9_ties_178 : decode cX9_ties 178 = .ok (.getfield 37, 3) := by decide +kernel
theorem dX9_ties_181 : decode cX9_ties 181 = .ok (.aload_n 0, 1) := by decide +kernel
theorem dX9_ties_182 : decode cX9_ties 182 = .ok (.getfield 31, 3) := by decide +kernel
theorem dX9_ties_185 : decode cX9_ties 185 = .ok (.iload_n 3, 1) := by decide +kernel
theorem dX9_ties_186 : decode cX9_ties 186 = .ok (.iaload, 1) := by decide +kernel
theorem dX9_ties_187 : decode cX9_ties 187 = .ok (.iaload, 1) := by decide +kernel
theorem dX9_ties_188 : decode cX9_ties 188 = .ok (.iconst 2, 1) := by decide +kernel
theorem dX9_ties_189 : decode cX9_ties 189 = .ok (.invokevirtual 220, 3) := by decide +kernel
theorem dX9_ties_192 : decode cX9_ties 192 = .ok (.iinc 3 1, 3) := by decide +kernel
theorem dX9_ties_195 : decode cX9_ties 195 = .ok (.goto (-143), 3) := by decide +kernel
theorem dX9_ties_198 : decode cX9_ties 198 = .ok (.iinc 1 1, 3) := by decide +kernel
theorem dX9_ties_201 : decode cX9_ties 201 = .ok (.goto (-171), 3) := by decide +kernel
theorem dX9_ties_204 : decode cX9_ties 204 = .ok (.iconst 0, 1) := by decide +kernel
theorem dX9_ties_205 : decode cX9_ties 205 = .ok (.istore_n 1, 1) := by decide +kernel
theorem dX9_ties_206 : decode cX9_ties 206 = .ok (.iload_n 1, 1) := by decide +kernel
theorem dX9_ties_207 : decode cX9_ties 207 = .ok (.aload_n 0, 1) := by decide +kernel
theorem dX9_ties_208 : decode cX9_ties 208 = .ok (.getfield 19, 3) := by decide +kernel
theorem dX9_ties_211 : decode cX9_ties 211 = .ok (.iconst 0, 1) := by decide +kernel
theorem dX9_ties_212 : decode cX9_ties 212 = .ok (.iaload, 1) := by decide +kernel
theorem dX9_ties_213 : decode cX9_ties 213 = .ok (.if_icmp .ge 54, 3) := by decide +kernel
theorem dX9_ties_216 : decode cX9_ties 216 = .ok (.iconst 0, 1) := by decide +kernel
theorem dX9_ties_217 : decode cX9_ties 217 = .ok (.istore_n 2, 1) := by decide +kernel
theorem dX9_ties_218 : decode cX9_ties 218 = .ok (.iload_n 2, 1) := by decide +kernel
theorem dX9_ties_219 : decode cX9_ties 219 = .ok (.aload_n 0, 1) := by decide +kernel
theorem dX9_ties_220 : decode cX9_ties 220 = .ok (.getfield 40, 3) := by decide +kernel
theorem dX9_ties_223 : decode cX9_ties 223 = .ok (.iload_n 1, 1) := by decide +kernel
theorem dX9_ties_224 : decode cX9_ties 224 = .ok (.iaload, 1) := by decide +kernel
theorem dX9_ties_225 : decode cX9_ties 225 = .ok (.if_icmp .ge 36, 3) := by decide +kernel
theorem dX9_ties_228 : decode cX9_ties 228 = .ok (.aload_n 0, 1) := by decide +kernel
theorem dX9_ties_229 : decode cX9_ties 229 = .ok (.aload_n 0, 1) := by decide +kernel
theorem dX9_ties_230 : decode cX9_ties 230 = .ok (.getfield 22, 3) := by decide +kernel
theorem dX9_ties_233 : decode cX9_ties 233 = .ok (.aload_n 0, 1) := by decide +kernel
theorem dX9_ties_234 : decode cX9_ties 234 = .ok (.getfield 43, 3) := by decide +kernel
theorem dX9_ties_237 : decode cX9_ties 237 = .ok (.bipush 6, 2) := by decide +kernel
theorem dX9_ties_239 : decode cX9_ties 239 = .ok (.iload_n 1, 1) := by decide +kernel
theorem dX9_ties_240 : decode cX9_ties 240 = .ok (.imul, 1) := by decide +kernel
theorem dX9_ties_241 : decode cX9_ties 241 = .ok (.iload_n 2, 1) := by decide +kernel
theorem dX9_ties_242 : decode cX9_ties 242 = .ok (.iadd, 1) := by decide +kernel
theorem dX9_ties_243 : decode cX9_ties 243 = .ok (.iaload, 1) := by decide +kernel
theorem dX9_ties_244 : decode cX9_ties 244 = .ok (.iaload, 1) := by decide +kernel
theorem dX9_ties_245 : decode cX9_ties 245 = .ok (.aload_n 0, 1) := by decide +kernel
theorem dX9_ties_246 : decode cX9_ties 246 = .ok (.getfield 37, 3) := by decide +kernel
theorem dX9_ties_249 : decode cX9_ties 249 = .ok (.iload_n 1, 1) := by decide +kernel
theorem dX9_ties_250 : decode cX9_ties 250 = .ok (.iaload, 1) := by decide +kernel
theorem dX9_ties_251 : decode cX9_ties 251 = .ok (.iconst 2, 1) := by decide +kernel
theorem dX9_ties_252 : decode cX9_ties 252 = .ok (.invokevirtual 220, 3) := by decide +kernel
theorem dX9_ties_255 : decode cX9_ties 255 = .ok (.iinc 2 1, 3) := by decide +kernel
theorem dX9_ties_258 : decode cX9_ties 258 = .ok (.goto (-40), 3) := by decide +kernel
theorem dX9_ties_261 : decode cX9_ties 261 = .ok (.iinc 1 1, 3) := by decide +kernel
theorem dX9_ties_264 : decode cX9_ties 264 = .ok (.goto (-58), 3) := by decide +kernel
theorem dX9_ties_267 : decode cX9_ties 267 = .ok (.return_, 1) := by decide +kernel
theorem dX9_ways_0 : decode cX9_ways 0 = .ok (.aload_n 0, 1) := by decide +kernel
theorem dX9_ways_1 : decode cX9_ways 1 = .ok (.getfield 7, 3) := by decide +kernel
theorem dX9_ways_4 : decode cX9_ways 4 = .ok (.iconst 0, 1) := by decide +kernel
theorem dX9_ways_5 : decode cX9_ways 5 = .ok (.iaload, 1) := by decide +kernel
theorem dX9_ways_6 : decode cX9_ways 6 = .ok (.istore_n 2, 1) := by decide +kernel
theorem dX9_ways_7 : decode cX9_ways 7 = .ok (.iconst 0, 1) := by decide +kernel
theorem dX9_ways_8 : decode cX9_ways 8 = .ok (.istore_n 3, 1) := by decide +kernel
theorem dX9_ways_9 : decode cX9_ways 9 = .ok (.iload_n 3, 1) := by decide +kernel
theorem dX9_ways_10 : decode cX9_ways 10 = .ok (.bipush 100, 2) := by decide +kernel
theorem dX9_ways_12 : decode cX9_ways 12 = .ok (.if_icmp .ge 41, 3) := by decide +kernel
theorem dX9_ways_15 : decode cX9_ways 15 = .ok (.aload_n 0, 1) := by decide +kernel
theorem dX9_ways_16 : decode cX9_ways 16 = .ok (.getfield 87, 3) := by decide +kernel
theorem dX9_ways_19 : decode cX9_ways 19 = .ok (.iload_n 3, 1) := by decide +kernel
theorem dX9_ways_20 : decode cX9_ways 20 = .ok (.iload_n 3, 1) := by decide +kernel
theorem dX9_ways_21 : decode cX9_ways 21 = .ok (.bipush 10, 2) := by decide +kernel
theorem dX9_ways_23 : decode cX9_ways 23 = .ok (.idiv, 1) := by decide +kernel
theorem dX9_ways_24 : decode cX9_ways 24 = .ok (.iload_n 3, 1) := by decide +kernel
theorem dX9_ways_25 : decode cX9_ways 25 = .ok (.bipush 10, 2) := by decide +kernel
theorem dX9_ways_27 : decode cX9_ways 27 = .ok (.irem, 1) := by decide +kernel
theorem dX9_ways_28 : decode cX9_ways 28 = .ok (.if_icmp .ne 7, 3) := by decide +kernel
theorem dX9_ways_31 : decode cX9_ways 31 = .ok (.iconst 0, 1) := by decide +kernel
theorem dX9_ways_32 : decode cX9_ways 32 = .ok (.goto 14, 3) := by decide +kernel
theorem dX9_ways_35 : decode cX9_ways 35 = .ok (.aload_n 1, 1) := by decide +kernel
theorem dX9_ways_36 : decode cX9_ways 36 = .ok (.iload_n 3, 1) := by decide +kernel
theorem dX9_ways_37 : decode cX9_ways 37 = .ok (.iaload, 1) := by decide +kernel
theorem dX9_ways_38 : decode cX9_ways 38 = .ok (.ifCond .le 7, 3) := by decide +kernel
theorem dX9_ways_41 : decode cX9_ways 41 = .ok (.iconst 1, 1) := by decide +kernel
theorem dX9_ways_42 : decode cX9_ways 42 = .ok (.goto 4, 3) := by decide +kernel
theorem dX9_ways_45 : decode cX9_ways 45 = .ok (.iconst (-1), 1) := by decide +kernel
theorem dX9_ways_46 : decode cX9_ways 46 = .ok (.iastore, 1) := by decide +kernel
theorem dX9_ways_47 : decode cX9_ways 47 = .ok (.iinc 3 1, 3) := by decide +kernel
theorem dX9_ways_50 : decode cX9_ways 50 = .ok (.goto (-41), 3) := by decide +kernel
theorem dX9_ways_53 : decode cX9_ways 53 = .ok (.iconst 0, 1) := by decide +kernel
theorem dX9_ways_54 : decode cX9_ways 54 = .ok (.istore_n 3, 1) := by decide +kernel
theorem dX9_ways_55 : decode cX9_ways 55 = .ok (.iload_n 3, 1) := by decide +kernel
theorem dX9_ways_56 : decode cX9_ways 56 = .ok (.iload_n 2, 1) := by decide +kernel
theorem dX9_ways_57 : decode cX9_ways 57 = .ok (.if_icmp .ge 133, 3) := by decide +kernel
theorem dX9_ways_60 : decode cX9_ways 60 = .ok (.iconst 0, 1) := by decide +kernel
theorem dX9_ways_61 : decode cX9_ways 61 = .ok (.istore 4, 2) := by decide +kernel
theorem dX9_ways_63 : decode cX9_ways 63 = .ok (.iload 4, 2) := by decide +kernel
theorem dX9_ways_65 : decode cX9_ways 65 = .ok (.iload_n 2, 1) := by decide +kernel
theorem dX9_ways_66 : decode cX9_ways 66 = .ok (.if_icmp .ge 118, 3) := by decide +kernel
theorem dX9_ways_69 : decode cX9_ways 69 = .ok (.iconst 0, 1) := by decide +kernel
theorem dX9_ways_70 : decode cX9_ways 70 = .ok (.istore 5, 2) := by decide +kernel
theorem dX9_ways_72 : decode cX9_ways 72 = .ok (.iload 5, 2) := by decide +kernel
theorem dX9_ways_74 : decode cX9_ways 74 = .ok (.iload_n 2, 1) := by decide +kernel
theorem dX9_ways_75 : decode cX9_ways 75 = .ok (.if_icmp .ge 103, 3) := by decide +kernel
theorem dX9_ways_78 : decode cX9_ways 78 = .ok (.aload_n 0, 1) := by decide +kernel
theorem dX9_ways_79 : decode cX9_ways 79 = .ok (.getfield 87, 3) := by decide +kernel
theorem dX9_ways_82 : decode cX9_ways 82 = .ok (.bipush 10, 2) := by decide +kernel
theorem dX9_ways_84 : decode cX9_ways 84 = .ok (.iload 4, 2) := by decide +kernel
theorem dX9_ways_86 : decode cX9_ways 86 = .ok (.imul, 1) := by decide +kernel
theorem dX9_ways_87 : decode cX9_ways 87 = .ok (.iload_n 3, 1) := by decide +kernel
theorem dX9_ways_88 : decode cX9_ways 88 = .ok (.iadd, 1) := by decide +kernel
theorem dX9_ways_89 : decode cX9_ways 89 = .ok (.iaload, 1) := by decide +kernel
theorem dX9_ways_90 : decode cX9_ways 90 = .ok (.istore 6, 2) := by decide +kernel
theorem dX9_ways_92 : decode cX9_ways 92 = .ok (.aload_n 0, 1) := by decide +kernel
theorem dX9_ways_93 : decode cX9_ways 93 = .ok (.getfield 87, 3) := by decide +kernel
theorem dX9_ways_96 : decode cX9_ways 96 = .ok (.bipush 10, 2) := by decide +kernel
theorem dX9_ways_98 : decode cX9_ways 98 = .ok (.iload_n 3, 1) := by decide +kernel
theorem dX9_ways_99 : decode cX9_ways 99 = .ok (.imul, 1) := by decide +kernel
theorem dX9_ways_100 : decode cX9_ways 100 = .ok (.iload 5, 2) := by decide +kernel
theorem dX9_ways_102 : decode cX9_ways 102 = .ok (.iadd, 1) := by decide +kernel
theorem dX9_ways_103 : decode cX9_ways 103 = .ok (.iaload, 1) := by decide +kernel
theorem dX9_ways_104 : decode cX9_ways 104 = .ok (.istore 7, 2) := by decide +kernel
theorem dX9_ways_106 : decode cX9_ways 106 = .ok (.aload_n 0, 1) := by decide +kernel
theorem dX9_ways_107 : decode cX9_ways 107 = .ok (.getfield 87, 3) := by decide +kernel
theorem dX9_ways_110 : decode cX9_ways 110 = .ok (.bipush 10, 2) := by decide +kernel
theorem dX9_ways_112 : decode cX9_ways 112 = .ok (.iload 4, 2) := by decide +kernel
theorem dX9_ways_114 : decode cX9_ways 114 = .ok (.imul, 1) := by decide +kernel
theorem dX9_ways_115 : decode cX9_ways 115 = .ok (.iload 5, 2) := by decide +kernel
theorem dX9_ways_117 : decode cX9_ways 117 = .ok (.iadd, 1) := by decide +kernel
theorem dX9_ways_118 : decode cX9_ways 118 = .ok (.iaload, 1) := by decide +kernel
theorem dX9_ways_119 : decode cX9_ways 119 = .ok (.istore 8, 2) := by decide +kernel
theorem dX9_ways_121 : decode cX9_ways 121 = .ok (.aload_n 0, 1) := by decide +kernel
theorem dX9_ways_122 : decode cX9_ways 122 = .ok (.getfield 87, 3) := by decide +kernel
theorem dX9_ways_125 : decode cX9_ways 125 = .ok (.bipush 10, 2) := by decide +kernel
theorem dX9_ways_127 : decode cX9_ways 127 = .ok (.iload 4, 2) := by decide +kernel
theorem dX9_ways_129 : decode cX9_ways 129 = .ok (.imul, 1) := by decide +kernel
theorem dX9_ways_130 : decode cX9_ways 130 = .ok (.iload 5, 2) := by decide +kernel
theorem dX9_ways_132 : decode cX9_ways 132 = .ok (.iadd, 1) := by decide +kernel
theorem dX9_ways_133 : decode cX9_ways 133 = .ok (.iload 6, 2) := by decide +kernel
theorem dX9_ways_135 : decode cX9_ways 135 = .ok (.iconst (-1), 1) := by decide +kernel
theorem dX9_ways_136 : decode cX9_ways 136 = .ok (.if_icmp .eq 33, 3) := by decide +kernel
theorem dX9_ways_139 : decode cX9_ways 139 = .ok (.iload 7, 2) := by decide +kernel
theorem dX9_ways_141 : decode cX9_ways 141 = .ok (.iconst (-1), 1) := by decide +kernel
theorem dX9_ways_142 : decode cX9_ways 142 = .ok (.if_icmp .eq 27, 3) := by decide +kernel
theorem dX9_ways_145 : decode cX9_ways 145 = .ok (.iload 8, 2) := by decide +kernel
theorem dX9_ways_147 : decode cX9_ways 147 = .ok (.iconst (-1), 1) := by decide +kernel
theorem dX9_ways_148 : decode cX9_ways 148 = .ok (.if_icmp .eq 13, 3) := by decide +kernel
theorem dX9_ways_151 : decode cX9_ways 151 = .ok (.iload 6, 2) := by decide +kernel
theorem dX9_ways_153 : decode cX9_ways 153 = .ok (.iload 7, 2) := by decide +kernel
theorem dX9_ways_155 : decode cX9_ways 155 = .ok (.iadd, 1) := by decide +kernel
theorem dX9_ways_156 : decode cX9_ways 156 = .ok (.iload 8, 2) := by decide +kernel
theorem dX9_ways_158 : decode cX9_ways 158 = .ok (.if_icmp .ge 11, 3) := by decide +kernel
theorem dX9_ways_161 : decode cX9_ways 161 = .ok (.iload 6, 2) := by decide +kernel
theorem dX9_ways_163 : decode cX9_ways 163 = .ok (.iload 7, 2) := by decide +kernel
theorem dX9_ways_165 : decode cX9_ways 165 = .ok (.iadd, 1) := by decide +kernel
theorem dX9_ways_166 : decode cX9_ways 166 = .ok (.goto 5, 3) := by decide +kernel
theorem dX9_ways_169 : decode cX9_ways 169 = .ok (.iload 8, 2) := by decide +kernel
theorem dX9_ways_171 : decode cX9_ways 171 = .ok (.iastore, 1) := by decide +kernel
theorem dX9_ways_172 : decode cX9_ways 172 = .ok (.iinc 5 1, 3) := by decide +kernel
theorem dX9_ways_175 : decode cX9_ways 175 = .ok (.goto (-103), 3) := by decide +kernel
theorem dX9_ways_178 : decode cX9_ways 178 = .ok (.iinc 4 1, 3) := by decide +kernel
theorem dX9_ways_181 : decode cX9_ways 181 = .ok (.goto (-118), 3) := by decide +kernel
theorem dX9_ways_184 : decode cX9_ways 184 = .ok (.iinc 3 1, 3) := by decide +kernel
theorem dX9_ways_187 : decode cX9_ways 187 = .ok (.goto (-132), 3) := by decide +kernel
theorem dX9_ways_190 : decode cX9_ways 190 = .ok (.return_, 1) := by decide +kernel
theorem dX9_areOne_0 : decode cX9_areOne 0 = .ok (.aload_n 0, 1) := by decide +kernel
theorem dX9_areOne_1 : decode cX9_areOne 1 = .ok (.getfield 87, 3) := by decide +kernel
theorem dX9_areOne_4 : decode cX9_areOne 4 = .ok (.bipush 10, 2) := by decide +kernel
theorem dX9_areOne_6 : decode cX9_areOne 6 = .ok (.iload_n 1, 1) := by decide +kernel
theorem dX9_areOne_7 : decode cX9_areOne 7 = .ok (.imul, 1) := by decide +kernel
theorem dX9_areOne_8 : decode cX9_areOne 8 = .ok (.iload_n 2, 1) := by decide +kernel
theorem dX9_areOne_9 : decode cX9_areOne 9 = .ok (.iadd, 1) := by decide +kernel
theorem dX9_areOne_10 : decode cX9_areOne 10 = .ok (.iaload, 1) := by decide +kernel
theorem dX9_areOne_11 : decode cX9_areOne 11 = .ok (.iconst (-1), 1) := by decide +kernel
theorem dX9_areOne_12 : decode cX9_areOne 12 = .ok (.if_icmp .eq 22, 3) := by decide +kernel
theorem dX9_areOne_15 : decode cX9_areOne 15 = .ok (.aload_n 0, 1) := by decide +kernel
theorem dX9_areOne_16 : decode cX9_areOne 16 = .ok (.getfield 87, 3) := by decide +kernel
theorem dX9_areOne_19 : decode cX9_areOne 19 = .ok (.bipush 10, 2) := by decide +kernel
theorem dX9_areOne_21 : decode cX9_areOne 21 = .ok (.iload_n 2, 1) := by decide +kernel
theorem dX9_areOne_22 : decode cX9_areOne 22 = .ok (.imul, 1) := by decide +kernel
theorem dX9_areOne_23 : decode cX9_areOne 23 = .ok (.iload_n 1, 1) := by decide +kernel
theorem dX9_areOne_24 : decode cX9_areOne 24 = .ok (.iadd, 1) := by decide +kernel
theorem dX9_areOne_25 : decode cX9_areOne 25 = .ok (.iaload, 1) := by decide +kernel
theorem dX9_areOne_26 : decode cX9_areOne 26 = .ok (.iconst (-1), 1) := by decide +kernel
theorem dX9_areOne_27 : decode cX9_areOne 27 = .ok (.if_icmp .eq 7, 3) := by decide +kernel
theorem dX9_areOne_30 : decode cX9_areOne 30 = .ok (.iconst 1, 1) := by decide +kernel
theorem dX9_areOne_31 : decode cX9_areOne 31 = .ok (.goto 4, 3) := by decide +kernel
theorem dX9_areOne_34 : decode cX9_areOne 34 = .ok (.iconst 0, 1) := by decide +kernel
theorem dX9_areOne_35 : decode cX9_areOne 35 = .ok (.ireturn, 1) := by decide +kernel
theorem dX9_looks_0 : decode cX9_looks 0 = .ok (.aload_n 0, 1) := by decide +kernel
theorem dX9_looks_1 : decode cX9_looks 1 = .ok (.invokevirtual 224, 3) := by decide +kernel
theorem dX9_looks_4 : decode cX9_looks 4 = .ok (.aload_n 0, 1) := by decide +kernel
theorem dX9_looks_5 : decode cX9_looks 5 = .ok (.aload_n 0, 1) := by decide +kernel
theorem dX9_looks_6 : decode cX9_looks 6 = .ok (.getfield 81, 3) := by decide +kernel
theorem dX9_looks_9 : decode cX9_looks 9 = .ok (.invokevirtual 227, 3) := by decide +kernel
theorem dX9_looks_12 : decode cX9_looks 12 = .ok (.return_, 1) := by decide +kernel
theorem dX9_tie_0 : decode cX9_tie 0 = .ok (.aload_n 0, 1) := by decide +kernel
theorem dX9_tie_1 : decode cX9_tie 1 = .ok (.iload_n 1, 1) := by decide +kernel
theorem dX9_tie_2 : decode cX9_tie 2 = .ok (.invokevirtual 131, 3) := by decide +kernel
theorem dX9_tie_5 : decode cX9_tie 5 = .ok (.ifCond .eq 25, 3) := by decide +kernel
theorem dX9_tie_8 : decode cX9_tie 8 = .ok (.aload_n 0, 1) := by decide +kernel
theorem dX9_tie_9 : decode cX9_tie 9 = .ok (.iload_n 2, 1) := by decide +kernel
theorem dX9_tie_10 : decode cX9_tie 10 = .ok (.invokevirtual 131, 3) := by decide +kernel
theorem dX9_tie_13 : decode cX9_tie 13 = .ok (.ifCond .eq 17, 3) := by decide +kernel
theorem dX9_tie_16 : decode cX9_tie 16 = .ok (.iload_n 1, 1) := by decide +kernel
theorem dX9_tie_17 : decode cX9_tie 17 = .ok (.iload_n 2, 1) := by decide +kernel
theorem dX9_tie_18 : decode cX9_tie 18 = .ok (.if_icmp .eq 12, 3) := by decide +kernel
theorem dX9_tie_21 : decode cX9_tie 21 = .ok (.iload_n 3, 1) := by decide +kernel
theorem dX9_tie_22 : decode cX9_tie 22 = .ok (.iconst 0, 1) := by decide +kernel
theorem dX9_tie_23 : decode cX9_tie 23 = .ok (.iconst 1, 1) := by decide +kernel
theorem dX9_tie_24 : decode cX9_tie 24 = .ok (.invokestatic 117, 3) := by decide +kernel
theorem dX9_tie_27 : decode cX9_tie 27 = .ok (.ifCond .ne 5, 3) := by decide +kernel
theorem dX9_tie_30 : decode cX9_tie 30 = .ok (.iconst (-1), 1) := by decide +kernel
theorem dX9_tie_31 : decode cX9_tie 31 = .ok (.ireturn, 1) := by decide +kernel
theorem dX9_tie_32 : decode cX9_tie 32 = .ok (.aload_n 0, 1) := by decide +kernel
theorem dX9_tie_33 : decode cX9_tie 33 = .ok (.invokevirtual 224, 3) := by decide +kernel
theorem dX9_tie_36 : decode cX9_tie 36 = .ok (.iload_n 3, 1) := by decide +kernel
theorem dX9_tie_37 : decode cX9_tie 37 = .ok (.ifCond .ne 17, 3) := by decide +kernel
theorem dX9_tie_40 : decode cX9_tie 40 = .ok (.aload_n 0, 1) := by decide +kernel
theorem dX9_tie_41 : decode cX9_tie 41 = .ok (.getfield 81, 3) := by decide +kernel
theorem dX9_tie_44 : decode cX9_tie 44 = .ok (.bipush 10, 2) := by decide +kernel
theorem dX9_tie_46 : decode cX9_tie 46 = .ok (.iload_n 1, 1) := by decide +kernel
theorem dX9_tie_47 : decode cX9_tie 47 = .ok (.imul, 1) := by decide +kernel
theorem dX9_tie_48 : decode cX9_tie 48 = .ok (.iload_n 2, 1) := by decide +kernel
theorem dX9_tie_49 : decode cX9_tie 49 = .ok (.iadd, 1) := by decide +kernel
theorem dX9_tie_50 : decode cX9_tie 50 = .ok (.iaload, 1) := by decide +kernel
theorem dX9_tie_51 : decode cX9_tie 51 = .ok (.goto 14, 3) := by decide +kernel
theorem dX9_tie_54 : decode cX9_tie 54 = .ok (.aload_n 0, 1) := by decide +kernel
theorem dX9_tie_55 : decode cX9_tie 55 = .ok (.getfield 84, 3) := by decide +kernel
theorem dX9_tie_58 : decode cX9_tie 58 = .ok (.bipush 10, 2) := by decide +kernel
theorem dX9_tie_60 : decode cX9_tie 60 = .ok (.iload_n 1, 1) := by decide +kernel
theorem dX9_tie_61 : decode cX9_tie 61 = .ok (.imul, 1) := by decide +kernel
theorem dX9_tie_62 : decode cX9_tie 62 = .ok (.iload_n 2, 1) := by decide +kernel
theorem dX9_tie_63 : decode cX9_tie 63 = .ok (.iadd, 1) := by decide +kernel
theorem dX9_tie_64 : decode cX9_tie 64 = .ok (.iaload, 1) := by decide +kernel
theorem dX9_tie_65 : decode cX9_tie 65 = .ok (.ireturn, 1) := by decide +kernel
theorem dX9_allow_0 : decode cX9_allow 0 = .ok (.aload_n 0, 1) := by decide +kernel
theorem dX9_allow_1 : decode cX9_allow 1 = .ok (.iload_n 1, 1) := by decide +kernel
theorem dX9_allow_2 : decode cX9_allow 2 = .ok (.invokevirtual 131, 3) := by decide +kernel
theorem dX9_allow_5 : decode cX9_allow 5 = .ok (.ifCond .eq 16, 3) := by decide +kernel
theorem dX9_allow_8 : decode cX9_allow 8 = .ok (.aload_n 0, 1) := by decide +kernel
theorem dX9_allow_9 : decode cX9_allow 9 = .ok (.iload_n 2, 1) := by decide +kernel
theorem dX9_allow_10 : decode cX9_allow 10 = .ok (.invokevirtual 131, 3) := by decide +kernel
theorem dX9_allow_13 : decode cX9_allow 13 = .ok (.ifCond .eq 8, 3) := by decide +kernel
theorem dX9_allow_16 : decode cX9_allow 16 = .ok (.iload_n 1, 1) := by decide +kernel
theorem dX9_allow_17 : decode cX9_allow 17 = .ok (.iload_n 2, 1) := by decide +kernel
theorem dX9_allow_18 : decode cX9_allow 18 = .ok (.if_icmp .ne 5, 3) := by decide +kernel
theorem dX9_allow_21 : decode cX9_allow 21 = .ok (.iconst (-1), 1) := by decide +kernel
theorem dX9_allow_22 : decode cX9_allow 22 = .ok (.ireturn, 1) := by decide +kernel
theorem dX9_allow_23 : decode cX9_allow 23 = .ok (.iload_n 3, 1) := by decide +kernel
theorem dX9_allow_24 : decode cX9_allow 24 = .ok (.iconst 0, 1) := by decide +kernel
theorem dX9_allow_25 : decode cX9_allow 25 = .ok (.sipush 999, 3) := by decide +kernel
theorem dX9_allow_28 : decode cX9_allow 28 = .ok (.invokestatic 117, 3) := by decide +kernel
theorem dX9_allow_31 : decode cX9_allow 31 = .ok (.ifCond .ne 6, 3) := by decide +kernel
theorem dX9_allow_34 : decode cX9_allow 34 = .ok (.bipush (-2), 2) := by decide +kernel
theorem dX9_allow_36 : decode cX9_allow 36 = .ok (.ireturn, 1) := by decide +kernel
theorem dX9_allow_37 : decode cX9_allow 37 = .ok (.aload_n 0, 1) := by decide +kernel
theorem dX9_allow_38 : decode cX9_allow 38 = .ok (.getfield 46, 3) := by decide +kernel
theorem dX9_allow_41 : decode cX9_allow 41 = .ok (.bipush 10, 2) := by decide +kernel
theorem dX9_allow_43 : decode cX9_allow 43 = .ok (.iload_n 1, 1) := by decide +kernel
theorem dX9_allow_44 : decode cX9_allow 44 = .ok (.imul, 1) := by decide +kernel
theorem dX9_allow_45 : decode cX9_allow 45 = .ok (.iload_n 2, 1) := by decide +kernel
theorem dX9_allow_46 : decode cX9_allow 46 = .ok (.iadd, 1) := by decide +kernel
theorem dX9_allow_47 : decode cX9_allow 47 = .ok (.iaload, 1) := by decide +kernel
