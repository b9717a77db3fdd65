/-! The law's loop: one theorem for each of its calls. Printed by wip/whole/law.py. -/
theorem d_law_0 : decode code 0 = .ok (.new 7, 3) := by decide +kernel
theorem d_law_3 : decode code 3 = .ok (.dup, 1) := by decide +kernel
theorem d_law_4 : decode code 4 = .ok (.aload_n 0, 1) := by decide +kernel
theorem d_law_5 : decode code 5 = .ok (.iconst 0, 1) := by decide +kernel
theorem d_law_6 : decode code 6 = .ok (.invokestatic 9, 3) := by decide +kernel
theorem d_law_9 : decode code 9 = .ok (.invokespecial 15, 3) := by decide +kernel
theorem d_law_12 : decode code 12 = .ok (.astore_n 1, 1) := by decide +kernel
theorem d_law_13 : decode code 13 = .ok (.new 18, 3) := by decide +kernel
theorem d_law_16 : decode code 16 = .ok (.dup, 1) := by decide +kernel
theorem d_law_17 : decode code 17 = .ok (.aload_n 0, 1) := by decide +kernel
theorem d_law_18 : decode code 18 = .ok (.iconst 0, 1) := by decide +kernel
theorem d_law_19 : decode code 19 = .ok (.invokestatic 9, 3) := by decide +kernel
theorem d_law_22 : decode code 22 = .ok (.invokespecial 20, 3) := by decide +kernel
theorem d_law_25 : decode code 25 = .ok (.astore_n 2, 1) := by decide +kernel
theorem d_law_26 : decode code 26 = .ok (.iconst 1, 1) := by decide +kernel
theorem d_law_27 : decode code 27 = .ok (.istore_n 3, 1) := by decide +kernel
theorem d_law_28 : decode code 28 = .ok (.iload_n 3, 1) := by decide +kernel
theorem d_law_29 : decode code 29 = .ok (.aload_n 0, 1) := by decide +kernel
theorem d_law_30 : decode code 30 = .ok (.arraylength, 1) := by decide +kernel
theorem d_law_31 : decode code 31 = .ok (.iconst 5, 1) := by decide +kernel
theorem d_law_32 : decode code 32 = .ok (.isub, 1) := by decide +kernel
theorem d_law_33 : decode code 33 = .ok (.if_icmp .gt 614, 3) := by decide +kernel
theorem d_law_36 : decode code 36 = .ok (.aload_n 0, 1) := by decide +kernel
theorem d_law_37 : decode code 37 = .ok (.iload_n 3, 1) := by decide +kernel
theorem d_law_38 : decode code 38 = .ok (.iaload, 1) := by decide +kernel
theorem d_law_39 : decode code 39 = .ok (.bipush 15, 2) := by decide +kernel
theorem d_law_41 : decode code 41 = .ok (.iand, 1) := by decide +kernel
theorem d_law_42 : decode code 42 = .ok (.tableswitch 599 0 14 #[74, 117, 150, 183, 206, 239, 272, 305, 338, 371, 414, 457, 490, 543, 576], 74) := by decide +kernel
theorem d_law_116 : decode code 116 = .ok (.aload_n 1, 1) := by decide +kernel
theorem d_law_117 : decode code 117 = .ok (.aload_n 0, 1) := by decide +kernel
theorem d_law_118 : decode code 118 = .ok (.iload_n 3, 1) := by decide +kernel
theorem d_law_119 : decode code 119 = .ok (.iconst 1, 1) := by decide +kernel
theorem d_law_120 : decode code 120 = .ok (.iadd, 1) := by decide +kernel
theorem d_law_121 : decode code 121 = .ok (.iaload, 1) := by decide +kernel
theorem d_law_122 : decode code 122 = .ok (.aload_n 0, 1) := by decide +kernel
theorem d_law_123 : decode code 123 = .ok (.iload_n 3, 1) := by decide +kernel
theorem d_law_124 : decode code 124 = .ok (.iconst 2, 1) := by decide +kernel
theorem d_law_125 : decode code 125 = .ok (.iadd, 1) := by decide +kernel
theorem d_law_126 : decode code 126 = .ok (.iaload, 1) := by decide +kernel
theorem d_law_127 : decode code 127 = .ok (.aload_n 0, 1) := by decide +kernel
theorem d_law_128 : decode code 128 = .ok (.iload_n 3, 1) := by decide +kernel
theorem d_law_129 : decode code 129 = .ok (.iconst 3, 1) := by decide +kernel
theorem d_law_130 : decode code 130 = .ok (.iadd, 1) := by decide +kernel
theorem d_law_131 : decode code 131 = .ok (.iaload, 1) := by decide +kernel
theorem d_law_132 : decode code 132 = .ok (.invokevirtual 21, 3) := by decide +kernel
theorem d_law_135 : decode code 135 = .ok (.aload_n 2, 1) := by decide +kernel
theorem d_law_136 : decode code 136 = .ok (.aload_n 0, 1) := by decide +kernel
theorem d_law_137 : decode code 137 = .ok (.iload_n 3, 1) := by decide +kernel
theorem d_law_138 : decode code 138 = .ok (.iconst 1, 1) := by decide +kernel
theorem d_law_139 : decode code 139 = .ok (.iadd, 1) := by decide +kernel
theorem d_law_140 : decode code 140 = .ok (.iaload, 1) := by decide +kernel
theorem d_law_141 : decode code 141 = .ok (.aload_n 0, 1) := by decide +kernel
theorem d_law_142 : decode code 142 = .ok (.iload_n 3, 1) := by decide +kernel
theorem d_law_143 : decode code 143 = .ok (.iconst 2, 1) := by decide +kernel
theorem d_law_144 : decode code 144 = .ok (.iadd, 1) := by decide +kernel
theorem d_law_145 : decode code 145 = .ok (.iaload, 1) := by decide +kernel
theorem d_law_146 : decode code 146 = .ok (.aload_n 0, 1) := by decide +kernel
theorem d_law_147 : decode code 147 = .ok (.iload_n 3, 1) := by decide +kernel
theorem d_law_148 : decode code 148 = .ok (.iconst 3, 1) := by decide +kernel
theorem d_law_149 : decode code 149 = .ok (.iadd, 1) := by decide +kernel
theorem d_law_150 : decode code 150 = .ok (.iaload, 1) := by decide +kernel
theorem d_law_151 : decode code 151 = .ok (.invokevirtual 25, 3) := by decide +kernel
theorem d_law_154 : decode code 154 = .ok (.if_icmp .eq 487, 3) := by decide +kernel
theorem d_law_157 : decode code 157 = .ok (.iconst 0, 1) := by decide +kernel
theorem d_law_158 : decode code 158 = .ok (.ireturn, 1) := by decide +kernel
theorem d_law_159 : decode code 159 = .ok (.aload_n 1, 1) := by decide +kernel
theorem d_law_160 : decode code 160 = .ok (.aload_n 0, 1) := by decide +kernel
theorem d_law_161 : decode code 161 = .ok (.iload_n 3, 1) := by decide +kernel
theorem d_law_162 : decode code 162 = .ok (.iconst 1, 1) := by decide +kernel
theorem d_law_163 : decode code 163 = .ok (.iadd, 1) := by decide +kernel
theorem d_law_164 : decode code 164 = .ok (.iaload, 1) := by decide +kernel
theorem d_law_165 : decode code 165 = .ok (.aload_n 0, 1) := by decide +kernel
theorem d_law_166 : decode code 166 = .ok (.iload_n 3, 1) := by decide +kernel
theorem d_law_167 : decode code 167 = .ok (.iconst 2, 1) := by decide +kernel
theorem d_law_168 : decode code 168 = .ok (.iadd, 1) := by decide +kernel
theorem d_law_169 : decode code 169 = .ok (.iaload, 1) := by decide +kernel
theorem d_law_170 : decode code 170 = .ok (.invokevirtual 26, 3) := by decide +kernel
theorem d_law_173 : decode code 173 = .ok (.aload_n 2, 1) := by decide +kernel
theorem d_law_174 : decode code 174 = .ok (.aload_n 0, 1) := by decide +kernel
theorem d_law_175 : decode code 175 = .ok (.iload_n 3, 1) := by decide +kernel
theorem d_law_176 : decode code 176 = .ok (.iconst 1, 1) := by decide +kernel
theorem d_law_177 : decode code 177 = .ok (.iadd, 1) := by decide +kernel
theorem d_law_178 : decode code 178 = .ok (.iaload, 1) := by decide +kernel
theorem d_law_179 : decode code 179 = .ok (.aload_n 0, 1) := by decide +kernel
theorem d_law_180 : decode code 180 = .ok (.iload_n 3, 1) := by decide +kernel
theorem d_law_181 : decode code 181 = .ok (.iconst 2, 1) := by decide +kernel
theorem d_law_182 : decode code 182 = .ok (.iadd, 1) := by decide +kernel
theorem d_law_183 : decode code 183 = .ok (.iaload, 1) := by decide +kernel
theorem d_law_184 : decode code 184 = .ok (.invokevirtual 30, 3) := by decide +kernel
theorem d_law_187 : decode code 187 = .ok (.if_icmp .eq 454, 3) := by decide +kernel
theorem d_law_190 : decode code 190 = .ok (.iconst 0, 1) := by decide +kernel
theorem d_law_191 : decode code 191 = .ok (.ireturn, 1) := by decide +kernel
theorem d_law_192 : decode code 192 = .ok (.aload_n 1, 1) := by decide +kernel
theorem d_law_193 : decode code 193 = .ok (.aload_n 0, 1) := by decide +kernel
theorem d_law_194 : decode code 194 = .ok (.iload_n 3, 1) := by decide +kernel
theorem d_law_195 : decode code 195 = .ok (.iconst 1, 1) := by decide +kernel
theorem d_law_196 : decode code 196 = .ok (.iadd, 1) := by decide +kernel
theorem d_law_197 : decode code 197 = .ok (.iaload, 1) := by decide +kernel
theorem d_law_198 : decode code 198 = .ok (.aload_n 0, 1) := by decide +kernel
theorem d_law_199 : decode code 199 = .ok (.iload_n 3, 1) := by decide +kernel
theorem d_law_200 : decode code 200 = .ok (.iconst 2, 1) := by decide +kernel
theorem d_law_201 : decode code 201 = .ok (.iadd, 1) := by decide +kernel
theorem d_law_202 : decode code 202 = .ok (.iaload, 1) := by decide +kernel
theorem d_law_203 : decode code 203 = .ok (.invokevirtual 31, 3) := by decide +kernel
theorem d_law_206 : decode code 206 = .ok (.aload_n 2, 1) := by decide +kernel
theorem d_law_207 : decode code 207 = .ok (.aload_n 0, 1) := by decide +kernel
theorem d_law_208 : decode code 208 = .ok (.iload_n 3, 1) := by decide +kernel
theorem d_law_209 : decode code 209 = .ok (.iconst 1, 1) := by decide +kernel
theorem d_law_210 : decode code 210 = .ok (.iadd, 1) := by decide +kernel
theorem d_law_211 : decode code 211 = .ok (.iaload, 1) := by decide +kernel
theorem d_law_212 : decode code 212 = .ok (.aload_n 0, 1) := by decide +kernel
theorem d_law_213 : decode code 213 = .ok (.iload_n 3, 1) := by decide +kernel
theorem d_law_214 : decode code 214 = .ok (.iconst 2, 1) := by decide +kernel
theorem d_law_215 : decode code 215 = .ok (.iadd, 1) := by decide +kernel
theorem d_law_216 : decode code 216 = .ok (.iaload, 1) := by decide +kernel
theorem d_law_217 : decode code 217 = .ok (.invokevirtual 34, 3) := by decide +kernel
theorem d_law_220 : decode code 220 = .ok (.if_icmp .eq 421, 3) := by decide +kernel
theorem d_law_223 : decode code 223 = .ok (.iconst 0, 1) := by decide +kernel
theorem d_law_224 : decode code 224 = .ok (.ireturn, 1) := by decide +kernel
theorem d_law_225 : decode code 225 = .ok (.aload_n 1, 1) := by decide +kernel
theorem d_law_226 : decode code 226 = .ok (.aload_n 0, 1) := by decide +kernel
theorem d_law_227 : decode code 227 = .ok (.iload_n 3, 1) := by decide +kernel
theorem d_law_228 : decode code 228 = .ok (.iconst 1, 1) := by decide +kernel
theorem d_law_229 : decode code 229 = .ok (.iadd, 1) := by decide +kernel
theorem d_law_230 : decode code 230 = .ok (.iaload, 1) := by decide +kernel
theorem d_law_231 : decode code 231 = .ok (.invokevirtual 35, 3) := by decide +kernel
theorem d_law_234 : decode code 234 = .ok (.aload_n 2, 1) := by decide +kernel
theorem d_law_235 : decode code 235 = .ok (.aload_n 0, 1) := by decide +kernel
theorem d_law_236 : decode code 236 = .ok (.iload_n 3, 1) := by decide +kernel
theorem d_law_237 : decode code 237 = .ok (.iconst 1, 1) := by decide +kernel
theorem d_law_238 : decode code 238 = .ok (.iadd, 1) := by decide +kernel
theorem d_law_239 : decode code 239 = .ok (.iaload, 1) := by decide +kernel
theorem d_law_240 : decode code 240 = .ok (.invokevirtual 39, 3) := by decide +kernel
theorem d_law_243 : decode code 243 = .ok (.if_icmp .eq 398, 3) := by decide +kernel
theorem d_law_246 : decode code 246 = .ok (.iconst 0, 1) := by decide +kernel
theorem d_law_247 : decode code 247 = .ok (.ireturn, 1) := by decide +kernel
theorem d_law_248 : decode code 248 = .ok (.aload_n 1, 1) := by decide +kernel
theorem d_law_249 : decode code 249 = .ok (.aload_n 0, 1) := by decide +kernel
theorem d_law_250 : decode code 250 = .ok (.iload_n 3, 1) := by decide +kernel
theorem d_law_251 : decode code 251 = .ok (.iconst 1, 1) := by decide +kernel
theorem d_law_252 : decode code 252 = .ok (.iadd, 1) := by decide +kernel
theorem d_law_253 : decode code 253 = .ok (.iaload, 1) := by decide +kernel
theorem d_law_254 : decode code 254 = .ok (.aload_n 0, 1) := by decide +kernel
theorem d_law_255 : decode code 255 = .ok (.iload_n 3, 1) := by decide +kernel
theorem d_law_256 : decode code 256 = .ok (.iconst 2, 1) := by decide +kernel
theorem d_law_257 : decode code 257 = .ok (.iadd, 1) := by decide +kernel
theorem d_law_258 : decode code 258 = .ok (.iaload, 1) := by decide +kernel
theorem d_law_259 : decode code 259 = .ok (.invokevirtual 40, 3) := by decide +kernel
theorem d_law_262 : decode code 262 = .ok (.aload_n 2, 1) := by decide +kernel
theorem d_law_263 : decode code 263 = .ok (.aload_n 0, 1) := by decide +kernel
theorem d_law_264 : decode code 264 = .ok (.iload_n 3, 1) := by decide +kernel
theorem d_law_265 : decode code 265 = .ok (.iconst 1, 1) := by decide +kernel
theorem d_law_266 : decode code 266 = .ok (.iadd, 1) := by decide +kernel
theorem d_law_267 : decode code 267 = .ok (.iaload, 1) := by decide +kernel
theorem d_law_268 : decode code 268 = .ok (.aload_n 0, 1) := by decide +kernel
theorem d_law_269 : decode code 269 = .ok (.iload_n 3, 1) := by decide +kernel
theorem d_law_270 : decode code 270 = .ok (.iconst 2, 1) := by decide +kernel
theorem d_law_271 : decode code 271 = .ok (.iadd, 1) := by decide +kernel
theorem d_law_272 : decode code 272 = .ok (.iaload, 1) := by decide +kernel
theorem d_law_273 : decode code 273 = .ok (.invokevirtual 43, 3) := by decide +kernel
theorem d_law_276 : decode code 276 = .ok (.if_icmp .eq 365, 3) := by decide +kernel
theorem d_law_279 : decode code 279 = .ok (.iconst 0, 1) := by decide +kernel
theorem d_law_280 : decode code 280 = .ok (.ireturn, 1) := by decide +kernel
theorem d_law_281 : decode code 281 = .ok (.aload_n 1, 1) := by decide +kernel
theorem d_law_282 : decode code 282 = .ok (.aload_n 0, 1) := by decide +kernel
theorem d_law_283 : decode code 283 = .ok (.iload_n 3, 1) := by decide +kernel
theorem d_law_284 : decode code 284 = .ok (.iconst 1, 1) := by decide +kernel
theorem d_law_285 : decode code 285 = .ok (.iadd, 1) := by decide +kernel
theorem d_law_286 : decode code 286 = .ok (.iaload, 1) := by decide +kernel
theorem d_law_287 : decode code 287 = .ok (.aload_n 0, 1) := by decide +kernel
theorem d_law_288 : decode code 288 = .ok (.iload_n 3, 1) := by decide +kernel
theorem d_law_289 : decode code 289 = .ok (.iconst 2, 1) := by decide +kernel
theorem d_law_290 : decode code 290 = .ok (.iadd, 1) := by decide +kernel
theorem d_law_291 : decode code 291 = .ok (.iaload, 1) := by decide +kernel
theorem d_law_292 : decode code 292 = .ok (.invokevirtual 44, 3) := by decide +kernel
theorem d_law_295 : decode code 295 = .ok (.aload_n 2, 1) := by decide +kernel
theorem d_law_296 : decode code 296 = .ok (.aload_n 0, 1) := by decide +kernel
theorem d_law_297 : decode code 297 = .ok (.iload_n 3, 1) := by decide +kernel
theorem d_law_298 : decode code 298 = .ok (.iconst 1, 1) := by decide +kernel
theorem d_law_299 : decode code 299 = .ok (.iadd, 1) := by decide +kernel
theorem d_law_300 : decode code 300 = .ok (.iaload, 1) := by decide +kernel
theorem d_law_301 : decode code 301 = .ok (.aload_n 0, 1) := by decide +kernel
theorem d_law_302 : decode code 302 = .ok (.iload_n 3, 1) := by decide +kernel
theorem d_law_303 : decode code 303 = .ok (.iconst 2, 1) := by decide +kernel
theorem d_law_304 : decode code 304 = .ok (.iadd, 1) := by decide +kernel
theorem d_law_305 : decode code 305 = .ok (.iaload, 1) := by decide +kernel
theorem d_law_306 : decode code 306 = .ok (.invokevirtual 47, 3) := by decide +kernel
theorem d_law_309 : decode code 309 = .ok (.if_icmp .eq 332, 3) := by decide +kernel
theorem d_law_312 : decode code 312 = .ok (.iconst 0, 1) := by decide +kernel
theorem d_law_313 : decode code 313 = .ok (.ireturn, 1) := by decide +kernel
theorem d_law_314 : decode code 314 = .ok (.aload_n 1, 1) := by decide +kernel
theorem d_law_315 : decode code 315 = .ok (.aload_n 0, 1) := by decide +kernel
theorem d_law_316 : decode code 316 = .ok (.iload_n 3, 1) := by decide +kernel
theorem d_law_317 : decode code 317 = .ok (.iconst 1, 1) := by decide +kernel
theorem d_law_318 : decode code 318 = .ok (.iadd, 1) := by decide +kernel
theorem d_law_319 : decode code 319 = .ok (.iaload, 1) := by decide +kernel
theorem d_law_320 : decode code 320 = .ok (.aload_n 0, 1) := by decide +kernel
theorem d_law_321 : decode code 321 = .ok (.iload_n 3, 1) := by decide +kernel
theorem d_law_322 : decode code 322 = .ok (.iconst 2, 1) := by decide +kernel
theorem d_law_323 : decode code 323 = .ok (.iadd, 1) := by decide +kernel
theorem d_law_324 : decode code 324 = .ok (.iaload, 1) := by decide +kernel
theorem d_law_325 : decode code 325 = .ok (.invokevirtual 48, 3) := by decide +kernel
theorem d_law_328 : decode code 328 = .ok (.aload_n 2, 1) := by decide +kernel
theorem d_law_329 : decode code 329 = .ok (.aload_n 0, 1) := by decide +kernel
theorem d_law_330 : decode code 330 = .ok (.iload_n 3, 1) := by decide +kernel
theorem d_law_331 : decode code 331 = .ok (.iconst 1, 1) := by decide +kernel
theorem d_law_332 : decode code 332 = .ok (.iadd, 1) := by decide +kernel
theorem d_law_333 : decode code 333 = .ok (.iaload, 1) := by decide +kernel
theorem d_law_334 : decode code 334 = .ok (.aload_n 0, 1) := by decide +kernel
theorem d_law_335 : decode code 335 = .ok (.iload_n 3, 1) := by decide +kernel
theorem d_law_336 : decode code 336 = .ok (.iconst 2, 1) := by decide +kernel
theorem d_law_337 : decode code 337 = .ok (.iadd, 1) := by decide +kernel
theorem d_law_338 : decode code 338 = .ok (.iaload, 1) := by decide +kernel
theorem d_law_339 : decode code 339 = .ok (.invokevirtual 51, 3) := by decide +kernel
theorem d_law_342 : decode code 342 = .ok (.if_icmp .eq 299, 3) := by decide +kernel
theorem d_law_345 : decode code 345 = .ok (.iconst 0, 1) := by decide +kernel
theorem d_law_346 : decode code 346 = .ok (.ireturn, 1) := by decide +kernel
theorem d_law_347 : decode code 347 = .ok (.aload_n 1, 1) := by decide +kernel
theorem d_law_348 : decode code 348 = .ok (.aload_n 0, 1) := by decide +kernel
theorem d_law_349 : decode code 349 = .ok (.iload_n 3, 1) := by decide +kernel
theorem d_law_350 : decode code 350 = .ok (.iconst 1, 1) := by decide +kernel
theorem d_law_351 : decode code 351 = .ok (.iadd, 1) := by decide +kernel
theorem d_law_352 : decode code 352 = .ok (.iaload, 1) := by decide +kernel
theorem d_law_353 : decode code 353 = .ok (.aload_n 0, 1) := by decide +kernel
theorem d_law_354 : decode code 354 = .ok (.iload_n 3, 1) := by decide +kernel
theorem d_law_355 : decode code 355 = .ok (.iconst 2, 1) := by decide +kernel
theorem d_law_356 : decode code 356 = .ok (.iadd, 1) := by decide +kernel
theorem d_law_357 : decode code 357 = .ok (.iaload, 1) := by decide +kernel
theorem d_law_358 : decode code 358 = .ok (.invokevirtual 52, 3) := by decide +kernel
theorem d_law_361 : decode code 361 = .ok (.aload_n 2, 1) := by decide +kernel
theorem d_law_362 : decode code 362 = .ok (.aload_n 0, 1) := by decide +kernel
theorem d_law_363 : decode code 363 = .ok (.iload_n 3, 1) := by decide +kernel
theorem d_law_364 : decode code 364 = .ok (.iconst 1, 1) := by decide +kernel
theorem d_law_365 : decode code 365 = .ok (.iadd, 1) := by decide +kernel
theorem d_law_366 : decode code 366 = .ok (.iaload, 1) := by decide +kernel
theorem d_law_367 : decode code 367 = .ok (.aload_n 0, 1) := by decide +kernel
theorem d_law_368 : decode code 368 = .ok (.iload_n 3, 1) := by decide +kernel
theorem d_law_369 : decode code 369 = .ok (.iconst 2, 1) := by decide +kernel
theorem d_law_370 : decode code 370 = .ok (.iadd, 1) := by decide +kernel
theorem d_law_371 : decode code 371 = .ok (.iaload, 1) := by decide +kernel
theorem d_law_372 : decode code 372 = .ok (.invokevirtual 55, 3) := by decide +kernel
theorem d_law_375 : decode code 375 = .ok (.if_icmp .eq 266, 3) := by decide +kernel
theorem d_law_378 : decode code 378 = .ok (.iconst 0, 1) := by decide +kernel
theorem d_law_379 : decode code 379 = .ok (.ireturn, 1) := by decide +kernel
theorem d_law_380 : decode code 380 = .ok (.aload_n 1, 1) := by decide +kernel
theorem d_law_381 : decode code 381 = .ok (.aload_n 0, 1) := by decide +kernel
theorem d_law_382 : decode code 382 = .ok (.iload_n 3, 1) := by decide +kernel
theorem d_law_383 : decode code 383 = .ok (.iconst 1, 1) := by decide +kernel
theorem d_law_384 : decode code 384 = .ok (.iadd, 1) := by decide +kernel
theorem d_law_385 : decode code 385 = .ok (.iaload, 1) := by decide +kernel
theorem d_law_386 : decode code 386 = .ok (.aload_n 0, 1) := by decide +kernel
theorem d_law_387 : decode code 387 = .ok (.iload_n 3, 1) := by decide +kernel
theorem d_law_388 : decode code 388 = .ok (.iconst 2, 1) := by decide +kernel
theorem d_law_389 : decode code 389 = .ok (.iadd, 1) := by decide +kernel
theorem d_law_390 : decode code 390 = .ok (.iaload, 1) := by decide +kernel
theorem d_law_391 : decode code 391 = .ok (.invokevirtual 56, 3) := by decide +kernel
theorem d_law_394 : decode code 394 = .ok (.aload_n 2, 1) := by decide +kernel
theorem d_law_395 : decode code 395 = .ok (.aload_n 0, 1) := by decide +kernel
theorem d_law_396 : decode code 396 = .ok (.iload_n 3, 1) := by decide +kernel
theorem d_law_397 : decode code 397 = .ok (.iconst 1, 1) := by decide +kernel
theorem d_law_398 : decode code 398 = .ok (.iadd, 1) := by decide +kernel
theorem d_law_399 : decode code 399 = .ok (.iaload, 1) := by decide +kernel
theorem d_law_400 : decode code 400 = .ok (.aload_n 0, 1) := by decide +kernel
theorem d_law_401 : decode code 401 = .ok (.iload_n 3, 1) := by decide +kernel
theorem d_law_402 : decode code 402 = .ok (.iconst 2, 1) := by decide +kernel
theorem d_law_403 : decode code 403 = .ok (.iadd, 1) := by decide +kernel
theorem d_law_404 : decode code 404 = .ok (.iaload, 1) := by decide +kernel
theorem d_law_405 : decode code 405 = .ok (.invokevirtual 59, 3) := by decide +kernel
theorem d_law_408 : decode code 408 = .ok (.if_icmp .eq 233, 3) := by decide +kernel
theorem d_law_411 : decode code 411 = .ok (.iconst 0, 1) := by decide +kernel
theorem d_law_412 : decode code 412 = .ok (.ireturn, 1) := by decide +kernel
theorem d_law_413 : decode code 413 = .ok (.aload_n 1, 1) := by decide +kernel
theorem d_law_414 : decode code 414 = .ok (.aload_n 0, 1) := by decide +kernel
theorem d_law_415 : decode code 415 = .ok (.iload_n 3, 1) := by decide +kernel
theorem d_law_416 : decode code 416 = .ok (.iconst 1, 1) := by decide +kernel
theorem d_law_417 : decode code 417 = .ok (.iadd, 1) := by decide +kernel
theorem d_law_418 : decode code 418 = .ok (.iaload, 1) := by decide +kernel
theorem d_law_419 : decode code 419 = .ok (.aload_n 0, 1) := by decide +kernel
theorem d_law_420 : decode code 420 = .ok (.iload_n 3, 1) := by decide +kernel
theorem d_law_421 : decode code 421 = .ok (.iconst 2, 1) := by decide +kernel
theorem d_law_422 : decode code 422 = .ok (.iadd, 1) := by decide +kernel
theorem d_law_423 : decode code 423 = .ok (.iaload, 1) := by decide +kernel
theorem d_law_424 : decode code 424 = .ok (.aload_n 0, 1) := by decide +kernel
theorem d_law_425 : decode code 425 = .ok (.iload_n 3, 1) := by decide +kernel
theorem d_law_426 : decode code 426 = .ok (.iconst 3, 1) := by decide +kernel
theorem d_law_427 : decode code 427 = .ok (.iadd, 1) := by decide +kernel
theorem d_law_428 : decode code 428 = .ok (.iaload, 1) := by decide +kernel
theorem d_law_429 : decode code 429 = .ok (.invokevirtual 60, 3) := by decide +kernel
theorem d_law_432 : decode code 432 = .ok (.aload_n 2, 1) := by decide +kernel
theorem d_law_433 : decode code 433 = .ok (.aload_n 0, 1) := by decide +kernel
theorem d_law_434 : decode code 434 = .ok (.iload_n 3, 1) := by decide +kernel
theorem d_law_435 : decode code 435 = .ok (.iconst 1, 1) := by decide +kernel
theorem d_law_436 : decode code 436 = .ok (.iadd, 1) := by decide +kernel
theorem d_law_437 : decode code 437 = .ok (.iaload, 1) := by decide +kernel
theorem d_law_438 : decode code 438 = .ok (.aload_n 0, 1) := by decide +kernel
theorem d_law_439 : decode code 439 = .ok (.iload_n 3, 1) := by decide +kernel
theorem d_law_440 : decode code 440 = .ok (.iconst 2, 1) := by decide +kernel
theorem d_law_441 : decode code 441 = .ok (.iadd, 1) := by decide +kernel
theorem d_law_442 : decode code 442 = .ok (.iaload, 1) := by decide +kernel
theorem d_law_443 : decode code 443 = .ok (.aload_n 0, 1) := by decide +kernel
theorem d_law_444 : decode code 444 = .ok (.iload_n 3, 1) := by decide +kernel
theorem d_law_445 : decode code 445 = .ok (.iconst 3, 1) := by decide +kernel
theorem d_law_446 : decode code 446 = .ok (.iadd, 1) := by decide +kernel
theorem d_law_447 : decode code 447 = .ok (.iaload, 1) := by decide +kernel
theorem d_law_448 : decode code 448 = .ok (.invokevirtual 63, 3) := by decide +kernel
theorem d_law_451 : decode code 451 = .ok (.if_icmp .eq 190, 3) := by decide +kernel
theorem d_law_454 : decode code 454 = .ok (.iconst 0, 1) := by decide +kernel
theorem d_law_455 : decode code 455 = .ok (.ireturn, 1) := by decide +kernel
theorem d_law_456 : decode code 456 = .ok (.aload_n 1, 1) := by decide +kernel
theorem d_law_457 : decode code 457 = .ok (.aload_n 0, 1) := by decide +kernel
theorem d_law_458 : decode code 458 = .ok (.iload_n 3, 1) := by decide +kernel
theorem d_law_459 : decode code 459 = .ok (.iconst 1, 1) := by decide +kernel
theorem d_law_460 : decode code 460 = .ok (.iadd, 1) := by decide +kernel
theorem d_law_461 : decode code 461 = .ok (.iaload, 1) := by decide +kernel
theorem d_law_462 : decode code 462 = .ok (.aload_n 0, 1) := by decide +kernel
theorem d_law_463 : decode code 463 = .ok (.iload_n 3, 1) := by decide +kernel
theorem d_law_464 : decode code 464 = .ok (.iconst 2, 1) := by decide +kernel
theorem d_law_465 : decode code 465 = .ok (.iadd, 1) := by decide +kernel
theorem d_law_466 : decode code 466 = .ok (.iaload, 1) := by decide +kernel
theorem d_law_467 : decode code 467 = .ok (.aload_n 0, 1) := by decide +kernel
theorem d_law_468 : decode code 468 = .ok (.iload_n 3, 1) := by decide +kernel
theorem d_law_469 : decode code 469 = .ok (.iconst 3, 1) := by decide +kernel
theorem d_law_470 : decode code 470 = .ok (.iadd, 1) := by decide +kernel
theorem d_law_471 : decode code 471 = .ok (.iaload, 1) := by decide +kernel
theorem d_law_472 : decode code 472 = .ok (.invokevirtual 64, 3) := by decide +kernel
theorem d_law_475 : decode code 475 = .ok (.aload_n 2, 1) := by decide +kernel
theorem d_law_476 : decode code 476 = .ok (.aload_n 0, 1) := by decide +kernel
theorem d_law_477 : decode code 477 = .ok (.iload_n 3, 1) := by decide +kernel
theorem d_law_478 : decode code 478 = .ok (.iconst 1, 1) := by decide +kernel
theorem d_law_479 : decode code 479 = .ok (.iadd, 1) := by decide +kernel
theorem d_law_480 : decode code 480 = .ok (.iaload, 1) := by decide +kernel
theorem d_law_481 : decode code 481 = .ok (.aload_n 0, 1) := by decide +kernel
theorem d_law_482 : decode code 482 = .ok (.iload_n 3, 1) := by decide +kernel
theorem d_law_483 : decode code 483 = .ok (.iconst 2, 1) := by decide +kernel
theorem d_law_484 : decode code 484 = .ok (.iadd, 1) := by decide +kernel
theorem d_law_485 : decode code 485 = .ok (.iaload, 1) := by decide +kernel
theorem d_law_486 : decode code 486 = .ok (.aload_n 0, 1) := by decide +kernel
theorem d_law_487 : decode code 487 = .ok (.iload_n 3, 1) := by decide +kernel
theorem d_law_488 : decode code 488 = .ok (.iconst 3, 1) := by decide +kernel
theorem d_law_489 : decode code 489 = .ok (.iadd, 1) := by decide +kernel
theorem d_law_490 : decode code 490 = .ok (.iaload, 1) := by decide +kernel
theorem d_law_491 : decode code 491 = .ok (.invokevirtual 68, 3) := by decide +kernel
theorem d_law_494 : decode code 494 = .ok (.if_icmp .eq 147, 3) := by decide +kernel
theorem d_law_497 : decode code 497 = .ok (.iconst 0, 1) := by decide +kernel
theorem d_law_498 : decode code 498 = .ok (.ireturn, 1) := by decide +kernel
theorem d_law_499 : decode code 499 = .ok (.aload_n 1, 1) := by decide +kernel
theorem d_law_500 : decode code 500 = .ok (.aload_n 0, 1) := by decide +kernel
theorem d_law_501 : decode code 501 = .ok (.iload_n 3, 1) := by decide +kernel
theorem d_law_502 : decode code 502 = .ok (.iconst 1, 1) := by decide +kernel
theorem d_law_503 : decode code 503 = .ok (.iadd, 1) := by decide +kernel
theorem d_law_504 : decode code 504 = .ok (.iaload, 1) := by decide +kernel
theorem d_law_505 : decode code 505 = .ok (.aload_n 0, 1) := by decide +kernel
theorem d_law_506 : decode code 506 = .ok (.iload_n 3, 1) := by decide +kernel
theorem d_law_507 : decode code 507 = .ok (.iconst 2, 1) := by decide +kernel
theorem d_law_508 : decode code 508 = .ok (.iadd, 1) := by decide +kernel
theorem d_law_509 : decode code 509 = .ok (.iaload, 1) := by decide +kernel
theorem d_law_510 : decode code 510 = .ok (.invokevirtual 69, 3) := by decide +kernel
theorem d_law_513 : decode code 513 = .ok (.aload_n 2, 1) := by decide +kernel
theorem d_law_514 : decode code 514 = .ok (.aload_n 0, 1) := by decide +kernel
theorem d_law_515 : decode code 515 = .ok (.iload_n 3, 1) := by decide +kernel
theorem d_law_516 : decode code 516 = .ok (.iconst 1, 1) := by decide +kernel
theorem d_law_517 : decode code 517 = .ok (.iadd, 1) := by decide +kernel
theorem d_law_518 : decode code 518 = .ok (.iaload, 1) := by decide +kernel
theorem d_law_519 : decode code 519 = .ok (.aload_n 0, 1) := by decide +kernel
theorem d_law_520 : decode code 520 = .ok (.iload_n 3, 1) := by decide +kernel
theorem d_law_521 : decode code 521 = .ok (.iconst 2, 1) := by decide +kernel
theorem d_law_522 : decode code 522 = .ok (.iadd, 1) := by decide +kernel
theorem d_law_523 : decode code 523 = .ok (.iaload, 1) := by decide +kernel
theorem d_law_524 : decode code 524 = .ok (.invokevirtual 72, 3) := by decide +kernel
theorem d_law_527 : decode code 527 = .ok (.if_icmp .eq 114, 3) := by decide +kernel
theorem d_law_530 : decode code 530 = .ok (.iconst 0, 1) := by decide +kernel
theorem d_law_531 : decode code 531 = .ok (.ireturn, 1) := by decide +kernel
theorem d_law_532 : decode code 532 = .ok (.aload_n 1, 1) := by decide +kernel
theorem d_law_533 : decode code 533 = .ok (.aload_n 0, 1) := by decide +kernel
theorem d_law_534 : decode code 534 = .ok (.iload_n 3, 1) := by decide +kernel
theorem d_law_535 : decode code 535 = .ok (.iconst 1, 1) := by decide +kernel
theorem d_law_536 : decode code 536 = .ok (.iadd, 1) := by decide +kernel
theorem d_law_537 : decode code 537 = .ok (.iaload, 1) := by decide +kernel
theorem d_law_538 : decode code 538 = .ok (.aload_n 0, 1) := by decide +kernel
theorem d_law_539 : decode code 539 = .ok (.iload_n 3, 1) := by decide +kernel
theorem d_law_540 : decode code 540 = .ok (.iconst 2, 1) := by decide +kernel
theorem d_law_541 : decode code 541 = .ok (.iadd, 1) := by decide +kernel
theorem d_law_542 : decode code 542 = .ok (.iaload, 1) := by decide +kernel
theorem d_law_543 : decode code 543 = .ok (.aload_n 0, 1) := by decide +kernel
theorem d_law_544 : decode code 544 = .ok (.iload_n 3, 1) := by decide +kernel
theorem d_law_545 : decode code 545 = .ok (.iconst 3, 1) := by decide +kernel
theorem d_law_546 : decode code 546 = .ok (.iadd, 1) := by decide +kernel
theorem d_law_547 : decode code 547 = .ok (.iaload, 1) := by decide +kernel
theorem d_law_548 : decode code 548 = .ok (.aload_n 0, 1) := by decide +kernel
theorem d_law_549 : decode code 549 = .ok (.iload_n 3, 1) := by decide +kernel
theorem d_law_550 : decode code 550 = .ok (.iconst 4, 1) := by decide +kernel
theorem d_law_551 : decode code 551 = .ok (.iadd, 1) := by decide +kernel
theorem d_law_552 : decode code 552 = .ok (.iaload, 1) := by decide +kernel
theorem d_law_553 : decode code 553 = .ok (.invokevirtual 73, 3) := by decide +kernel
theorem d_law_556 : decode code 556 = .ok (.aload_n 2, 1) := by decide +kernel
theorem d_law_557 : decode code 557 = .ok (.aload_n 0, 1) := by decide +kernel
theorem d_law_558 : decode code 558 = .ok (.iload_n 3, 1) := by decide +kernel
theorem d_law_559 : decode code 559 = .ok (.iconst 1, 1) := by decide +kernel
theorem d_law_560 : decode code 560 = .ok (.iadd, 1) := by decide +kernel
theorem d_law_561 : decode code 561 = .ok (.iaload, 1) := by decide +kernel
theorem d_law_562 : decode code 562 = .ok (.aload_n 0, 1) := by decide +kernel
theorem d_law_563 : decode code 563 = .ok (.iload_n 3, 1) := by decide +kernel
theorem d_law_564 : decode code 564 = .ok (.iconst 2, 1) := by decide +kernel
theorem d_law_565 : decode code 565 = .ok (.iadd, 1) := by decide +kernel
theorem d_law_566 : decode code 566 = .ok (.iaload, 1) := by decide +kernel
theorem d_law_567 : decode code 567 = .ok (.aload_n 0, 1) := by decide +kernel
theorem d_law_568 : decode code 568 = .ok (.iload_n 3, 1) := by decide +kernel
theorem d_law_569 : decode code 569 = .ok (.iconst 3, 1) := by decide +kernel
theorem d_law_570 : decode code 570 = .ok (.iadd, 1) := by decide +kernel
theorem d_law_571 : decode code 571 = .ok (.iaload, 1) := by decide +kernel
theorem d_law_572 : decode code 572 = .ok (.aload_n 0, 1) := by decide +kernel
theorem d_law_573 : decode code 573 = .ok (.iload_n 3, 1) := by decide +kernel
theorem d_law_574 : decode code 574 = .ok (.iconst 4, 1) := by decide +kernel
theorem d_law_575 : decode code 575 = .ok (.iadd, 1) := by decide +kernel
theorem d_law_576 : decode code 576 = .ok (.iaload, 1) := by decide +kernel
theorem d_law_577 : decode code 577 = .ok (.invokevirtual 77, 3) := by decide +kernel
theorem d_law_580 : decode code 580 = .ok (.if_icmp .eq 61, 3) := by decide +kernel
theorem d_law_583 : decode code 583 = .ok (.iconst 0, 1) := by decide +kernel
theorem d_law_584 : decode code 584 = .ok (.ireturn, 1) := by decide +kernel
theorem d_law_585 : decode code 585 = .ok (.aload_n 1, 1) := by decide +kernel
theorem d_law_586 : decode code 586 = .ok (.aload_n 0, 1) := by decide +kernel
theorem d_law_587 : decode code 587 = .ok (.iload_n 3, 1) := by decide +kernel
theorem d_law_588 : decode code 588 = .ok (.iconst 1, 1) := by decide +kernel
theorem d_law_589 : decode code 589 = .ok (.iadd, 1) := by decide +kernel
theorem d_law_590 : decode code 590 = .ok (.iaload, 1) := by decide +kernel
theorem d_law_591 : decode code 591 = .ok (.aload_n 0, 1) := by decide +kernel
theorem d_law_592 : decode code 592 = .ok (.iload_n 3, 1) := by decide +kernel
theorem d_law_593 : decode code 593 = .ok (.iconst 2, 1) := by decide +kernel
theorem d_law_594 : decode code 594 = .ok (.iadd, 1) := by decide +kernel
theorem d_law_595 : decode code 595 = .ok (.iaload, 1) := by decide +kernel
theorem d_law_596 : decode code 596 = .ok (.invokevirtual 78, 3) := by decide +kernel
theorem d_law_599 : decode code 599 = .ok (.aload_n 2, 1) := by decide +kernel
theorem d_law_600 : decode code 600 = .ok (.aload_n 0, 1) := by decide +kernel
theorem d_law_601 : decode code 601 = .ok (.iload_n 3, 1) := by decide +kernel
theorem d_law_602 : decode code 602 = .ok (.iconst 1, 1) := by decide +kernel
theorem d_law_603 : decode code 603 = .ok (.iadd, 1) := by decide +kernel
theorem d_law_604 : decode code 604 = .ok (.iaload, 1) := by decide +kernel
theorem d_law_605 : decode code 605 = .ok (.aload_n 0, 1) := by decide +kernel
theorem d_law_606 : decode code 606 = .ok (.iload_n 3, 1) := by decide +kernel
theorem d_law_607 : decode code 607 = .ok (.iconst 2, 1) := by decide +kernel
theorem d_law_608 : decode code 608 = .ok (.iadd, 1) := by decide +kernel
theorem d_law_609 : decode code 609 = .ok (.iaload, 1) := by decide +kernel
theorem d_law_610 : decode code 610 = .ok (.invokevirtual 81, 3) := by decide +kernel
theorem d_law_613 : decode code 613 = .ok (.if_icmp .eq 28, 3) := by decide +kernel
theorem d_law_616 : decode code 616 = .ok (.iconst 0, 1) := by decide +kernel
theorem d_law_617 : decode code 617 = .ok (.ireturn, 1) := by decide +kernel
theorem d_law_618 : decode code 618 = .ok (.aload_n 1, 1) := by decide +kernel
theorem d_law_619 : decode code 619 = .ok (.aload_n 0, 1) := by decide +kernel
theorem d_law_620 : decode code 620 = .ok (.iload_n 3, 1) := by decide +kernel
theorem d_law_621 : decode code 621 = .ok (.iconst 1, 1) := by decide +kernel
theorem d_law_622 : decode code 622 = .ok (.iadd, 1) := by decide +kernel
theorem d_law_623 : decode code 623 = .ok (.iaload, 1) := by decide +kernel
theorem d_law_624 : decode code 624 = .ok (.invokevirtual 82, 3) := by decide +kernel
theorem d_law_627 : decode code 627 = .ok (.aload_n 2, 1) := by decide +kernel
theorem d_law_628 : decode code 628 = .ok (.aload_n 0, 1) := by decide +kernel
theorem d_law_629 : decode code 629 = .ok (.iload_n 3, 1) := by decide +kernel
theorem d_law_630 : decode code 630 = .ok (.iconst 1, 1) := by decide +kernel
theorem d_law_631 : decode code 631 = .ok (.iadd, 1) := by decide +kernel
theorem d_law_632 : decode code 632 = .ok (.iaload, 1) := by decide +kernel
theorem d_law_633 : decode code 633 = .ok (.invokevirtual 85, 3) := by decide +kernel
theorem d_law_636 : decode code 636 = .ok (.if_icmp .eq 5, 3) := by decide +kernel
theorem d_law_639 : decode code 639 = .ok (.iconst 0, 1) := by decide +kernel
theorem d_law_640 : decode code 640 = .ok (.ireturn, 1) := by decide +kernel
theorem d_law_641 : decode code 641 = .ok (.iinc 3 5, 3) := by decide +kernel
theorem d_law_644 : decode code 644 = .ok (.goto (-616), 3) := by decide +kernel
theorem d_law_647 : decode code 647 = .ok (.iconst 1, 1) := by decide +kernel
theorem d_law_648 : decode code 648 = .ok (.ireturn, 1) := by decide +kernel
def lwL : List Cond := [Cond.methodLink "DiffusingRoutesLaw" 21 y_D_connect, Cond.methodLink "DiffusingRoutesLaw" 25 y_M_connect, Cond.methodLink "DiffusingRoutesLaw" 26 y_D_cut, Cond.methodLink "DiffusingRoutesLaw" 30 y_M_cut, Cond.methodLink "DiffusingRoutesLaw" 31 y_D_deliver, Cond.methodLink "DiffusingRoutesLaw" 34 y_M_deliver, Cond.methodLink "DiffusingRoutesLaw" 35 y_D_run, Cond.methodLink "DiffusingRoutesLaw" 39 y_M_run, Cond.methodLink "DiffusingRoutesLaw" 40 y_D_cost, Cond.methodLink "DiffusingRoutesLaw" 43 y_M_cost, Cond.methodLink "DiffusingRoutesLaw" 44 y_D_distance, Cond.methodLink "DiffusingRoutesLaw" 47 y_M_distance, Cond.methodLink "DiffusingRoutesLaw" 48 y_D_limit, Cond.methodLink "DiffusingRoutesLaw" 51 y_M_limit, Cond.methodLink "DiffusingRoutesLaw" 52 y_D_next, Cond.methodLink "DiffusingRoutesLaw" 55 y_M_next, Cond.methodLink "DiffusingRoutesLaw" 56 y_D_state, Cond.methodLink "DiffusingRoutesLaw" 59 y_M_state, Cond.methodLink "DiffusingRoutesLaw" 60 y_D_told, Cond.methodLink "DiffusingRoutesLaw" 63 y_M_told, Cond.methodLink "DiffusingRoutesLaw" 64 y_D_waits, Cond.methodLink "DiffusingRoutesLaw" 68 y_M_waits, Cond.methodLink "DiffusingRoutesLaw" 69 y_D_flight, Cond.methodLink "DiffusingRoutesLaw" 72 y_M_flight, Cond.methodLink "DiffusingRoutesLaw" 73 y_D_message, Cond.methodLink "DiffusingRoutesLaw" 77 y_M_message, Cond.methodLink "DiffusingRoutesLaw" 78 y_D_hops, Cond.methodLink "DiffusingRoutesLaw" 81 y_M_hops, Cond.methodLink "DiffusingRoutesLaw" 82 y_D_total, Cond.methodLink "DiffusingRoutesLaw" 85 y_M_total]
theorem lw_in {i k L : Nat} (h : i + k < L) (hL : L ≤ 2561) : vp_in (nI i + nI k) L := by
  rw [nI_add]
  exact vp_in_nI h (by omega)
section LW
variable {p : Program} {l : Launch} {e : Env} {s : State} {m : MethodId} {below : List Frame} {meth : Method} {c : Code} {H : Heap} {cells slots : Nat} {Q : State → Prop}
variable {ls : Array Slot} {dC : Nat → ClassId} {dI : Nat → Nat → Nat} {cI cZ cR cA : ClassId} {n : Nat} {ad1 ad2 : zK → Nat} {sc sm : zS} {b L i : Nat} {xs : Nat → Int32}
set_option maxHeartbeats 4000000 in
theorem lw_k0 (S : CallFix p m c code 4 s #[Value.ref b] zT "DiffusingRoutesLaw") (hlk : ∀ w ∈ lwL, w.before #[Value.ref b] s = true) (hX : va_X b L xs s s.heap) (hbl : b < s.heap.size) (hn : 2 ≤ n ∧ n ≤ 6) (hK : va_K (dC, dI) zcl (zty cI cZ cR cA) s) (hF : lwF n ad1 ad2 s) (hcs : cells ≤ room_1.cells ∧ slots ≤ room_1.slots) (hL : L ≤ 2561) (hi : i + 4 < L) (hl : lv_has ls 4 [(0, .ref b), (1, .ref (ad1 (0, 0))), (2, .ref (ad2 (0, 0))), (3, .int (nI i))]) (hS : va_S (lwN s) s.heap H []) (hP1 : zV (dC, dI) zcl (zKs n) ad1 (zcE n cI cZ cR cA ad1) sc H) (hP2 : zV (dC, dI) zcl zKm ad2 (zmE n cI cZ ad2) sm H) (hpr : zPr n sc sm) (kk : ∀ (H1 : Heap) (sc1 sm1 : zS), va_S (lwN s) s.heap H1 [] → zV (dC, dI) zcl (zKs n) ad1 (zcE n cI cZ cR cA ad1) sc1 H1 → zV (dC, dI) zcl zKm ad2 (zmE n cI cZ ad2) sm1 H1 → zPr n sc1 sm1 → W p l e room_1 s m #[Value.ref b] below meth c H1 [] cells slots Q (F0 m 641 ls [])) : W p l e room_1 s m #[Value.ref b] below meth c H [] cells slots Q (F0 m 116 ls []) := by
  have hbA : ¬ lwN s b := fun h => absurd hbl (Nat.not_lt.mpr h)
  have in1 : vp_in (nI i + 1) L := lw_in (i := i) (k := 1) (by omega) hL
  have in2 : vp_in (nI i + 2) L := lw_in (i := i) (k := 2) (by omega) hL
  have in3 : vp_in (nI i + 3) L := lw_in (i := i) (k := 3) (by omega) hL
  have in4 : vp_in (nI i + 4) L := lw_in (i := i) (k := 4) (by omega) hL
  refine lv_aload_n S.1 S.2.1 d_law_116 rfl (lv_at hl 1 rfl) ?_
  refine lv_aload_n S.1 S.2.1 d_law_117 rfl (lv_at hl 0 rfl) ?_
  refine lv_iload_n S.1 S.2.1 d_law_118 rfl (lv_at hl 3 rfl) ?_
  refine lv_iconst (v := 1) S.1 S.2.1 d_law_119 (by decide) ?_
  refine lv_iadd S.1 S.2.1 d_law_120 ?_
  refine va_sld S.1 S.2.1 hX hbl hbA hS in1 d_law_121 ?_
  refine lv_aload_n S.1 S.2.1 d_law_122 rfl (lv_at hl 0 rfl) ?_
  refine lv_iload_n S.1 S.2.1 d_law_123 rfl (lv_at hl 3 rfl) ?_
  refine lv_iconst (v := 2) S.1 S.2.1 d_law_124 (by decide) ?_
  refine lv_iadd S.1 S.2.1 d_law_125 ?_
  refine va_sld S.1 S.2.1 hX hbl hbA hS in2 d_law_126 ?_
  refine lv_aload_n S.1 S.2.1 d_law_127 rfl (lv_at hl 0 rfl) ?_
  refine lv_iload_n S.1 S.2.1 d_law_128 rfl (lv_at hl 3 rfl) ?_
  refine lv_iconst (v := 3) S.1 S.2.1 d_law_129 (by decide) ?_
  refine lv_iadd S.1 S.2.1 d_law_130 ?_
  refine va_sld S.1 S.2.1 hX hbl hbA hS in3 d_law_131 ?_
  obtain ⟨o, sc1, sm1, e1, e2, hpr1⟩ := s_con hn hpr (xs (nI i + 1).toNatClampNeg) (xs (nI i + 2).toNatClampNeg) (xs (nI i + 3).toNatClampNeg)
  refine lw_c1 (out := (o, sc1)) (As := [.int (xs (nI i + 1).toNatClampNeg), .int (xs (nI i + 2).toNatClampNeg), .int (xs (nI i + 3).toNatClampNeg)]) (rest := []) S hK hF (C_D_connect hn (lwA_D hF.1) l (xs (nI i + 1).toNatClampNeg) (xs (nI i + 2).toNatClampNeg) (xs (nI i + 3).toNatClampNeg) sc (o, sc1) e1) zn_D_connect rfl (hlk _ (List.mem_of_getElem? (i := 0) rfl)) ⟨rfl, rfl⟩ ⟨Nat.le_of_ble_eq_true rfl, Nat.le_of_ble_eq_true rfl⟩ hcs hl.1 (Nat.le_of_ble_eq_true rfl) hS hP1 hP2 d_law_132 rfl (fun H1 hS hP1 hP2 => ?_)
  refine lv_aload_n S.1 S.2.1 d_law_135 rfl (lv_at hl 2 rfl) ?_
  refine lv_aload_n S.1 S.2.1 d_law_136 rfl (lv_at hl 0 rfl) ?_
  refine lv_iload_n S.1 S.2.1 d_law_137 rfl (lv_at hl 3 rfl) ?_
  refine lv_iconst (v := 1) S.1 S.2.1 d_law_138 (by decide) ?_
  refine lv_iadd S.1 S.2.1 d_law_139 ?_
  refine va_sld S.1 S.2.1 hX hbl hbA hS in1 d_law_140 ?_
  refine lv_aload_n S.1 S.2.1 d_law_141 rfl (lv_at hl 0 rfl) ?_
  refine lv_iload_n S.1 S.2.1 d_law_142 rfl (lv_at hl 3 rfl) ?_
  refine lv_iconst (v := 2) S.1 S.2.1 d_law_143 (by decide) ?_
  refine lv_iadd S.1 S.2.1 d_law_144 ?_
  refine va_sld S.1 S.2.1 hX hbl hbA hS in2 d_law_145 ?_
  refine lv_aload_n S.1 S.2.1 d_law_146 rfl (lv_at hl 0 rfl) ?_
  refine lv_iload_n S.1 S.2.1 d_law_147 rfl (lv_at hl 3 rfl) ?_
  refine lv_iconst (v := 3) S.1 S.2.1 d_law_148 (by decide) ?_
  refine lv_iadd S.1 S.2.1 d_law_149 ?_
  refine va_sld S.1 S.2.1 hX hbl hbA hS in3 d_law_150 ?_
  refine lw_c2 (out := (o, sm1)) (As := [.int (xs (nI i + 1).toNatClampNeg), .int (xs (nI i + 2).toNatClampNeg), .int (xs (nI i + 3).toNatClampNeg)]) (rest := [.int o]) S hK hF (C_M_connect hn (lwA_D hF.2.1) l (xs (nI i + 1).toNatClampNeg) (xs (nI i + 2).toNatClampNeg) (xs (nI i + 3).toNatClampNeg) sm (o, sm1) e2) zn_M_connect rfl (hlk _ (List.mem_of_getElem? (i := 1) rfl)) ⟨rfl, rfl⟩ ⟨Nat.le_of_ble_eq_true rfl, Nat.le_of_ble_eq_true rfl⟩ hcs hl.1 (Nat.le_of_ble_eq_true rfl) hS hP1 hP2 d_law_151 rfl (fun H2 hS hP1 hP2 => ?_)
  refine lv_icmp_eq (tgt := 641) S.1 S.2.1 d_law_154 (by decide) (fun h => ?_) (fun h => ?_)
  · first | exact kk H2 sc1 sm1 hS hP1 hP2 hpr1 | exact absurd rfl h
  · first | exact kk H2 sc1 sm1 hS hP1 hP2 hpr1 | exact absurd rfl h
set_option maxHeartbeats 4000000 in
theorem lw_k1 (S : CallFix p m c code 4 s #[Value.ref b] zT "DiffusingRoutesLaw") (hlk : ∀ w ∈ lwL, w.before #[Value.ref b] s = true) (hX : va_X b L xs s s.heap) (hbl : b < s.heap.size) (hn : 2 ≤ n ∧ n ≤ 6) (hK : va_K (dC, dI) zcl (zty cI cZ cR cA) s) (hF : lwF n ad1 ad2 s) (hcs : cells ≤ room_1.cells ∧ slots ≤ room_1.slots) (hL : L ≤ 2561) (hi : i + 4 < L) (hl : lv_has ls 4 [(0, .ref b), (1, .ref (ad1 (0, 0))), (2, .ref (ad2 (0, 0))), (3, .int (nI i))]) (hS : va_S (lwN s) s.heap H []) (hP1 : zV (dC, dI) zcl (zKs n) ad1 (zcE n cI cZ cR cA ad1) sc H) (hP2 : zV (dC, dI) zcl zKm ad2 (zmE n cI cZ ad2) sm H) (hpr : zPr n sc sm) (kk : ∀ (H1 : Heap) (sc1 sm1 : zS), va_S (lwN s) s.heap H1 [] → zV (dC, dI) zcl (zKs n) ad1 (zcE n cI cZ cR cA ad1) sc1 H1 → zV (dC, dI) zcl zKm ad2 (zmE n cI cZ ad2) sm1 H1 → zPr n sc1 sm1 → W p l e room_1 s m #[Value.ref b] below meth c H1 [] cells slots Q (F0 m 641 ls [])) : W p l e room_1 s m #[Value.ref b] below meth c H [] cells slots Q (F0 m 159 ls []) := by
  have hbA : ¬ lwN s b := fun h => absurd hbl (Nat.not_lt.mpr h)
  have in1 : vp_in (nI i + 1) L := lw_in (i := i) (k := 1) (by omega) hL
  have in2 : vp_in (nI i + 2) L := lw_in (i := i) (k := 2) (by omega) hL
  have in3 : vp_in (nI i + 3) L := lw_in (i := i) (k := 3) (by omega) hL
  have in4 : vp_in (nI i + 4) L := lw_in (i := i) (k := 4) (by omega) hL
  refine lv_aload_n S.1 S.2.1 d_law_159 rfl (lv_at hl 1 rfl) ?_
  refine lv_aload_n S.1 S.2.1 d_law_160 rfl (lv_at hl 0 rfl) ?_
  refine lv_iload_n S.1 S.2.1 d_law_161 rfl (lv_at hl 3 rfl) ?_
  refine lv_iconst (v := 1) S.1 S.2.1 d_law_162 (by decide) ?_
  refine lv_iadd S.1 S.2.1 d_law_163 ?_
  refine va_sld S.1 S.2.1 hX hbl hbA hS in1 d_law_164 ?_
  refine lv_aload_n S.1 S.2.1 d_law_165 rfl (lv_at hl 0 rfl) ?_
  refine lv_iload_n S.1 S.2.1 d_law_166 rfl (lv_at hl 3 rfl) ?_
  refine lv_iconst (v := 2) S.1 S.2.1 d_law_167 (by decide) ?_
  refine lv_iadd S.1 S.2.1 d_law_168 ?_
  refine va_sld S.1 S.2.1 hX hbl hbA hS in2 d_law_169 ?_
  obtain ⟨o, sc1, sm1, e1, e2, hpr1⟩ := s_cut hn hpr (xs (nI i + 1).toNatClampNeg) (xs (nI i + 2).toNatClampNeg)
  refine lw_c1 (out := (o, sc1)) (As := [.int (xs (nI i + 1).toNatClampNeg), .int (xs (nI i + 2).toNatClampNeg)]) (rest := []) S hK hF (C_D_cut hn (lwA_D hF.1) l (xs (nI i + 1).toNatClampNeg) (xs (nI i + 2).toNatClampNeg) sc (o, sc1) e1) zn_D_cut rfl (hlk _ (List.mem_of_getElem? (i := 2) rfl)) ⟨rfl, rfl⟩ ⟨Nat.le_of_ble_eq_true rfl, Nat.le_of_ble_eq_true rfl⟩ hcs hl.1 (Nat.le_of_ble_eq_true rfl) hS hP1 hP2 d_law_170 rfl (fun H1 hS hP1 hP2 => ?_)
  refine lv_aload_n S.1 S.2.1 d_law_173 rfl (lv_at hl 2 rfl) ?_
  refine lv_aload_n S.1 S.2.1 d_law_174 rfl (lv_at hl 0 rfl) ?_
  refine lv_iload_n S.1 S.2.1 d_law_175 rfl (lv_at hl 3 rfl) ?_
  refine lv_iconst (v := 1) S.1 S.2.1 d_law_176 (by decide) ?_
  refine lv_iadd S.1 S.2.1 d_law_177 ?_
  refine va_sld S.1 S.2.1 hX hbl hbA hS in1 d_law_178 ?_
  refine lv_aload_n S.1 S.2.1 d_law_179 rfl (lv_at hl 0 rfl) ?_
  refine lv_iload_n S.1 S.2.1 d_law_180 rfl (lv_at hl 3 rfl) ?_
  refine lv_iconst (v := 2) S.1 S.2.1 d_law_181 (by decide) ?_
  refine lv_iadd S.1 S.2.1 d_law_182 ?_
  refine va_sld S.1 S.2.1 hX hbl hbA hS in2 d_law_183 ?_
  refine lw_c2 (out := (o, sm1)) (As := [.int (xs (nI i + 1).toNatClampNeg), .int (xs (nI i + 2).toNatClampNeg)]) (rest := [.int o]) S hK hF (C_M_cut hn (lwA_D hF.2.1) l (xs (nI i + 1).toNatClampNeg) (xs (nI i + 2).toNatClampNeg) sm (o, sm1) e2) zn_M_cut rfl (hlk _ (List.mem_of_getElem? (i := 3) rfl)) ⟨rfl, rfl⟩ ⟨Nat.le_of_ble_eq_true rfl, Nat.le_of_ble_eq_true rfl⟩ hcs hl.1 (Nat.le_of_ble_eq_true rfl) hS hP1 hP2 d_law_184 rfl (fun H2 hS hP1 hP2 => ?_)
  refine lv_icmp_eq (tgt := 641) S.1 S.2.1 d_law_187 (by decide) (fun h => ?_) (fun h => ?_)
  · first | exact kk H2 sc1 sm1 hS hP1 hP2 hpr1 | exact absurd rfl h
  · first | exact kk H2 sc1 sm1 hS hP1 hP2 hpr1 | exact absurd rfl h
set_option maxHeartbeats 4000000 in
theorem lw_k2 (S : CallFix p m c code 4 s #[Value.ref b] zT "DiffusingRoutesLaw") (hlk : ∀ w ∈ lwL, w.before #[Value.ref b] s = true) (hX : va_X b L xs s s.heap) (hbl : b < s.heap.size) (hn : 2 ≤ n ∧ n ≤ 6) (hK : va_K (dC, dI) zcl (zty cI cZ cR cA) s) (hF : lwF n ad1 ad2 s) (hcs : cells ≤ room_1.cells ∧ slots ≤ room_1.slots) (hL : L ≤ 2561) (hi : i + 4 < L) (hl : lv_has ls 4 [(0, .ref b), (1, .ref (ad1 (0, 0))), (2, .ref (ad2 (0, 0))), (3, .int (nI i))]) (hS : va_S (lwN s) s.heap H []) (hP1 : zV (dC, dI) zcl (zKs n) ad1 (zcE n cI cZ cR cA ad1) sc H) (hP2 : zV (dC, dI) zcl zKm ad2 (zmE n cI cZ ad2) sm H) (hpr : zPr n sc sm) (kk : ∀ (H1 : Heap) (sc1 sm1 : zS), va_S (lwN s) s.heap H1 [] → zV (dC, dI) zcl (zKs n) ad1 (zcE n cI cZ cR cA ad1) sc1 H1 → zV (dC, dI) zcl zKm ad2 (zmE n cI cZ ad2) sm1 H1 → zPr n sc1 sm1 → W p l e room_1 s m #[Value.ref b] below meth c H1 [] cells slots Q (F0 m 641 ls [])) : W p l e room_1 s m #[Value.ref b] below meth c H [] cells slots Q (F0 m 192 ls []) := by
  have hbA : ¬ lwN s b := fun h => absurd hbl (Nat.not_lt.mpr h)
  have in1 : vp_in (nI i + 1) L := lw_in (i := i) (k := 1) (by omega) hL
  have in2 : vp_in (nI i + 2) L := lw_in (i := i) (k := 2) (by omega) hL
  have in3 : vp_in (nI i + 3) L := lw_in (i := i) (k := 3) (by omega) hL
  have in4 : vp_in (nI i + 4) L := lw_in (i := i) (k := 4) (by omega) hL
  refine lv_aload_n S.1 S.2.1 d_law_192 rfl (lv_at hl 1 rfl) ?_
  refine lv_aload_n S.1 S.2.1 d_law_193 rfl (lv_at hl 0 rfl) ?_
  refine lv_iload_n S.1 S.2.1 d_law_194 rfl (lv_at hl 3 rfl) ?_
  refine lv_iconst (v := 1) S.1 S.2.1 d_law_195 (by decide) ?_
  refine lv_iadd S.1 S.2.1 d_law_196 ?_
  refine va_sld S.1 S.2.1 hX hbl hbA hS in1 d_law_197 ?_
  refine lv_aload_n S.1 S.2.1 d_law_198 rfl (lv_at hl 0 rfl) ?_
  refine lv_iload_n S.1 S.2.1 d_law_199 rfl (lv_at hl 3 rfl) ?_
  refine lv_iconst (v := 2) S.1 S.2.1 d_law_200 (by decide) ?_
  refine lv_iadd S.1 S.2.1 d_law_201 ?_
  refine va_sld S.1 S.2.1 hX hbl hbA hS in2 d_law_202 ?_
  obtain ⟨o, sc1, sm1, e1, e2, hpr1⟩ := s_del hn hpr (xs (nI i + 1).toNatClampNeg) (xs (nI i + 2).toNatClampNeg)
  refine lw_c1 (out := (o, sc1)) (As := [.int (xs (nI i + 1).toNatClampNeg), .int (xs (nI i + 2).toNatClampNeg)]) (rest := []) S hK hF (C_D_deliver hn (lwA_D hF.1) l (xs (nI i + 1).toNatClampNeg) (xs (nI i + 2).toNatClampNeg) sc (o, sc1) e1) zn_D_deliver rfl (hlk _ (List.mem_of_getElem? (i := 4) rfl)) ⟨rfl, rfl⟩ ⟨Nat.le_of_ble_eq_true rfl, Nat.le_of_ble_eq_true rfl⟩ hcs hl.1 (Nat.le_of_ble_eq_true rfl) hS hP1 hP2 d_law_203 rfl (fun H1 hS hP1 hP2 => ?_)
  refine lv_aload_n S.1 S.2.1 d_law_206 rfl (lv_at hl 2 rfl) ?_
  refine lv_aload_n S.1 S.2.1 d_law_207 rfl (lv_at hl 0 rfl) ?_
  refine lv_iload_n S.1 S.2.1 d_law_208 rfl (lv_at hl 3 rfl) ?_
  refine lv_iconst (v := 1) S.1 S.2.1 d_law_209 (by decide) ?_
  refine lv_iadd S.1 S.2.1 d_law_210 ?_
  refine va_sld S.1 S.2.1 hX hbl hbA hS in1 d_law_211 ?_
  refine lv_aload_n S.1 S.2.1 d_law_212 rfl (lv_at hl 0 rfl) ?_
  refine lv_iload_n S.1 S.2.1 d_law_213 rfl (lv_at hl 3 rfl) ?_
  refine lv_iconst (v := 2) S.1 S.2.1 d_law_214 (by decide) ?_
  refine lv_iadd S.1 S.2.1 d_law_215 ?_
  refine va_sld S.1 S.2.1 hX hbl hbA hS in2 d_law_216 ?_
  refine lw_c2 (out := (o, sm1)) (As := [.int (xs (nI i + 1).toNatClampNeg), .int (xs (nI i + 2).toNatClampNeg)]) (rest := [.int o]) S hK hF (C_M_deliver hn (lwA_D hF.2.1) l (xs (nI i + 1).toNatClampNeg) (xs (nI i + 2).toNatClampNeg) sm (o, sm1) e2) zn_M_deliver rfl (hlk _ (List.mem_of_getElem? (i := 5) rfl)) ⟨rfl, rfl⟩ ⟨Nat.le_of_ble_eq_true rfl, Nat.le_of_ble_eq_true rfl⟩ hcs hl.1 (Nat.le_of_ble_eq_true rfl) hS hP1 hP2 d_law_217 rfl (fun H2 hS hP1 hP2 => ?_)
  refine lv_icmp_eq (tgt := 641) S.1 S.2.1 d_law_220 (by decide) (fun h => ?_) (fun h => ?_)
  · first | exact kk H2 sc1 sm1 hS hP1 hP2 hpr1 | exact absurd rfl h
  · first | exact kk H2 sc1 sm1 hS hP1 hP2 hpr1 | exact absurd rfl h
set_option maxHeartbeats 4000000 in
theorem lw_k3 (S : CallFix p m c code 4 s #[Value.ref b] zT "DiffusingRoutesLaw") (hlk : ∀ w ∈ lwL, w.before #[Value.ref b] s = true) (hX : va_X b L xs s s.heap) (hbl : b < s.heap.size) (hn : 2 ≤ n ∧ n ≤ 6) (hK : va_K (dC, dI) zcl (zty cI cZ cR cA) s) (hF : lwF n ad1 ad2 s) (hcs : cells ≤ room_1.cells ∧ slots ≤ room_1.slots) (hL : L ≤ 2561) (hi : i + 4 < L) (hl : lv_has ls 4 [(0, .ref b), (1, .ref (ad1 (0, 0))), (2, .ref (ad2 (0, 0))), (3, .int (nI i))]) (hS : va_S (lwN s) s.heap H []) (hP1 : zV (dC, dI) zcl (zKs n) ad1 (zcE n cI cZ cR cA ad1) sc H) (hP2 : zV (dC, dI) zcl zKm ad2 (zmE n cI cZ ad2) sm H) (hpr : zPr n sc sm) (kk : ∀ (H1 : Heap) (sc1 sm1 : zS), va_S (lwN s) s.heap H1 [] → zV (dC, dI) zcl (zKs n) ad1 (zcE n cI cZ cR cA ad1) sc1 H1 → zV (dC, dI) zcl zKm ad2 (zmE n cI cZ ad2) sm1 H1 → zPr n sc1 sm1 → W p l e room_1 s m #[Value.ref b] below meth c H1 [] cells slots Q (F0 m 641 ls [])) : W p l e room_1 s m #[Value.ref b] below meth c H [] cells slots Q (F0 m 225 ls []) := by
  have hbA : ¬ lwN s b := fun h => absurd hbl (Nat.not_lt.mpr h)
  have in1 : vp_in (nI i + 1) L := lw_in (i := i) (k := 1) (by omega) hL
  have in2 : vp_in (nI i + 2) L := lw_in (i := i) (k := 2) (by omega) hL
  have in3 : vp_in (nI i + 3) L := lw_in (i := i) (k := 3) (by omega) hL
  have in4 : vp_in (nI i + 4) L := lw_in (i := i) (k := 4) (by omega) hL
  refine lv_aload_n S.1 S.2.1 d_law_225 rfl (lv_at hl 1 rfl) ?_
  refine lv_aload_n S.1 S.2.1 d_law_226 rfl (lv_at hl 0 rfl) ?_
  refine lv_iload_n S.1 S.2.1 d_law_227 rfl (lv_at hl 3 rfl) ?_
  refine lv_iconst (v := 1) S.1 S.2.1 d_law_228 (by decide) ?_
  refine lv_iadd S.1 S.2.1 d_law_229 ?_
  refine va_sld S.1 S.2.1 hX hbl hbA hS in1 d_law_230 ?_
  obtain ⟨o, sc1, sm1, e1, e2, hpr1⟩ := s_run hn hpr (xs (nI i + 1).toNatClampNeg)
  refine lw_c1 (out := (o, sc1)) (As := [.int (xs (nI i + 1).toNatClampNeg)]) (rest := []) S hK hF (C_D_run hn (lwA_D hF.1) l (xs (nI i + 1).toNatClampNeg) sc (o, sc1) e1) zn_D_run rfl (hlk _ (List.mem_of_getElem? (i := 6) rfl)) ⟨rfl, rfl⟩ ⟨Nat.le_of_ble_eq_true rfl, Nat.le_of_ble_eq_true rfl⟩ hcs hl.1 (Nat.le_of_ble_eq_true rfl) hS hP1 hP2 d_law_231 rfl (fun H1 hS hP1 hP2 => ?_)
  refine lv_aload_n S.1 S.2.1 d_law_234 rfl (lv_at hl 2 rfl) ?_
  refine lv_aload_n S.1 S.2.1 d_law_235 rfl (lv_at hl 0 rfl) ?_
  refine lv_iload_n S.1 S.2.1 d_law_236 rfl (lv_at hl 3 rfl) ?_
  refine lv_iconst (v := 1) S.1 S.2.1 d_law_237 (by decide) ?_
  refine lv_iadd S.1 S.2.1 d_law_238 ?_
  refine va_sld S.1 S.2.1 hX hbl hbA hS in1 d_law_239 ?_
  refine lw_c2 (out := (o, sm1)) (As := [.int (xs (nI i + 1).toNatClampNeg)]) (rest := [.int o]) S hK hF (C_M_run hn (lwA_D hF.2.1) l (xs (nI i + 1).toNatClampNeg) sm (o, sm1) e2) zn_M_run rfl (hlk _ (List.mem_of_getElem? (i := 7) rfl)) ⟨rfl, rfl⟩ ⟨Nat.le_of_ble_eq_true rfl, Nat.le_of_ble_eq_true rfl⟩ hcs hl.1 (Nat.le_of_ble_eq_true rfl) hS hP1 hP2 d_law_240 rfl (fun H2 hS hP1 hP2 => ?_)
  refine lv_icmp_eq (tgt := 641) S.1 S.2.1 d_law_243 (by decide) (fun h => ?_) (fun h => ?_)
  · first | exact kk H2 sc1 sm1 hS hP1 hP2 hpr1 | exact absurd rfl h
  · first | exact kk H2 sc1 sm1 hS hP1 hP2 hpr1 | exact absurd rfl h
set_option maxHeartbeats 4000000 in
theorem lw_k4 (S : CallFix p m c code 4 s #[Value.ref b] zT "DiffusingRoutesLaw") (hlk : ∀ w ∈ lwL, w.before #[Value.ref b] s = true) (hX : va_X b L xs s s.heap) (hbl : b < s.heap.size) (hn : 2 ≤ n ∧ n ≤ 6) (hK : va_K (dC, dI) zcl (zty cI cZ cR cA) s) (hF : lwF n ad1 ad2 s) (hcs : cells ≤ room_1.cells ∧ slots ≤ room_1.slots) (hL : L ≤ 2561) (hi : i + 4 < L) (hl : lv_has ls 4 [(0, .ref b), (1, .ref (ad1 (0, 0))), (2, .ref (ad2 (0, 0))), (3, .int (nI i))]) (hS : va_S (lwN s) s.heap H []) (hP1 : zV (dC, dI) zcl (zKs n) ad1 (zcE n cI cZ cR cA ad1) sc H) (hP2 : zV (dC, dI) zcl zKm ad2 (zmE n cI cZ ad2) sm H) (hpr : zPr n sc sm) (kk : ∀ (H1 : Heap) (sc1 sm1 : zS), va_S (lwN s) s.heap H1 [] → zV (dC, dI) zcl (zKs n) ad1 (zcE n cI cZ cR cA ad1) sc1 H1 → zV (dC, dI) zcl zKm ad2 (zmE n cI cZ ad2) sm1 H1 → zPr n sc1 sm1 → W p l e room_1 s m #[Value.ref b] below meth c H1 [] cells slots Q (F0 m 641 ls [])) : W p l e room_1 s m #[Value.ref b] below meth c H [] cells slots Q (F0 m 248 ls []) := by
  have hbA : ¬ lwN s b := fun h => absurd hbl (Nat.not_lt.mpr h)
  have in1 : vp_in (nI i + 1) L := lw_in (i := i) (k := 1) (by omega) hL
  have in2 : vp_in (nI i + 2) L := lw_in (i := i) (k := 2) (by omega) hL
  have in3 : vp_in (nI i + 3) L := lw_in (i := i) (k := 3) (by omega) hL
  have in4 : vp_in (nI i + 4) L := lw_in (i := i) (k := 4) (by omega) hL
  refine lv_aload_n S.1 S.2.1 d_law_248 rfl (lv_at hl 1 rfl) ?_
  refine lv_aload_n S.1 S.2.1 d_law_249 rfl (lv_at hl 0 rfl) ?_
  refine lv_iload_n S.1 S.2.1 d_law_250 rfl (lv_at hl 3 rfl) ?_
  refine lv_iconst (v := 1) S.1 S.2.1 d_law_251 (by decide) ?_
  refine lv_iadd S.1 S.2.1 d_law_252 ?_
  refine va_sld S.1 S.2.1 hX hbl hbA hS in1 d_law_253 ?_
  refine lv_aload_n S.1 S.2.1 d_law_254 rfl (lv_at hl 0 rfl) ?_
  refine lv_iload_n S.1 S.2.1 d_law_255 rfl (lv_at hl 3 rfl) ?_
  refine lv_iconst (v := 2) S.1 S.2.1 d_law_256 (by decide) ?_
  refine lv_iadd S.1 S.2.1 d_law_257 ?_
  refine va_sld S.1 S.2.1 hX hbl hbA hS in2 d_law_258 ?_
  obtain ⟨o, sc1, sm1, e1, e2, hpr1⟩ := s_cost hn hpr (xs (nI i + 1).toNatClampNeg) (xs (nI i + 2).toNatClampNeg)
  refine lw_c1 (out := (o, sc1)) (As := [.int (xs (nI i + 1).toNatClampNeg), .int (xs (nI i + 2).toNatClampNeg)]) (rest := []) S hK hF (C_D_cost hn (lwA_D hF.1) l (xs (nI i + 1).toNatClampNeg) (xs (nI i + 2).toNatClampNeg) sc (o, sc1) e1) zn_D_cost rfl (hlk _ (List.mem_of_getElem? (i := 8) rfl)) ⟨rfl, rfl⟩ ⟨Nat.le_of_ble_eq_true rfl, Nat.le_of_ble_eq_true rfl⟩ hcs hl.1 (Nat.le_of_ble_eq_true rfl) hS hP1 hP2 d_law_259 rfl (fun H1 hS hP1 hP2 => ?_)
  refine lv_aload_n S.1 S.2.1 d_law_262 rfl (lv_at hl 2 rfl) ?_
  refine lv_aload_n S.1 S.2.1 d_law_263 rfl (lv_at hl 0 rfl) ?_
  refine lv_iload_n S.1 S.2.1 d_law_264 rfl (lv_at hl 3 rfl) ?_
  refine lv_iconst (v := 1) S.1 S.2.1 d_law_265 (by decide) ?_
  refine lv_iadd S.1 S.2.1 d_law_266 ?_
  refine va_sld S.1 S.2.1 hX hbl hbA hS in1 d_law_267 ?_
  refine lv_aload_n S.1 S.2.1 d_law_268 rfl (lv_at hl 0 rfl) ?_
  refine lv_iload_n S.1 S.2.1 d_law_269 rfl (lv_at hl 3 rfl) ?_
  refine lv_iconst (v := 2) S.1 S.2.1 d_law_270 (by decide) ?_
  refine lv_iadd S.1 S.2.1 d_law_271 ?_
  refine va_sld S.1 S.2.1 hX hbl hbA hS in2 d_law_272 ?_
  refine lw_c2 (out := (o, sm1)) (As := [.int (xs (nI i + 1).toNatClampNeg), .int (xs (nI i + 2).toNatClampNeg)]) (rest := [.int o]) S hK hF (C_M_cost hn (lwA_D hF.2.1) l (xs (nI i + 1).toNatClampNeg) (xs (nI i + 2).toNatClampNeg) sm (o, sm1) e2) zn_M_cost rfl (hlk _ (List.mem_of_getElem? (i := 9) rfl)) ⟨rfl, rfl⟩ ⟨Nat.le_of_ble_eq_true rfl, Nat.le_of_ble_eq_true rfl⟩ hcs hl.1 (Nat.le_of_ble_eq_true rfl) hS hP1 hP2 d_law_273 rfl (fun H2 hS hP1 hP2 => ?_)
  refine lv_icmp_eq (tgt := 641) S.1 S.2.1 d_law_276 (by decide) (fun h => ?_) (fun h => ?_)
  · first | exact kk H2 sc1 sm1 hS hP1 hP2 hpr1 | exact absurd rfl h
  · first | exact kk H2 sc1 sm1 hS hP1 hP2 hpr1 | exact absurd rfl h
set_option maxHeartbeats 4000000 in
theorem lw_k5 (S : CallFix p m c code 4 s #[Value.ref b] zT "DiffusingRoutesLaw") (hlk : ∀ w ∈ lwL, w.before #[Value.ref b] s = true) (hX : va_X b L xs s s.heap) (hbl : b < s.heap.size) (hn : 2 ≤ n ∧ n ≤ 6) (hK : va_K (dC, dI) zcl (zty cI cZ cR cA) s) (hF : lwF n ad1 ad2 s) (hcs : cells ≤ room_1.cells ∧ slots ≤ room_1.slots) (hL : L ≤ 2561) (hi : i + 4 < L) (hl : lv_has ls 4 [(0, .ref b), (1, .ref (ad1 (0, 0))), (2, .ref (ad2 (0, 0))), (3, .int (nI i))]) (hS : va_S (lwN s) s.heap H []) (hP1 : zV (dC, dI) zcl (zKs n) ad1 (zcE n cI cZ cR cA ad1) sc H) (hP2 : zV (dC, dI) zcl zKm ad2 (zmE n cI cZ ad2) sm H) (hpr : zPr n sc sm) (kk : ∀ (H1 : Heap) (sc1 sm1 : zS), va_S (lwN s) s.heap H1 [] → zV (dC, dI) zcl (zKs n) ad1 (zcE n cI cZ cR cA ad1) sc1 H1 → zV (dC, dI) zcl zKm ad2 (zmE n cI cZ ad2) sm1 H1 → zPr n sc1 sm1 → W p l e room_1 s m #[Value.ref b] below meth c H1 [] cells slots Q (F0 m 641 ls [])) : W p l e room_1 s m #[Value.ref b] below meth c H [] cells slots Q (F0 m 281 ls []) := by
  have hbA : ¬ lwN s b := fun h => absurd hbl (Nat.not_lt.mpr h)
  have in1 : vp_in (nI i + 1) L := lw_in (i := i) (k := 1) (by omega) hL
  have in2 : vp_in (nI i + 2) L := lw_in (i := i) (k := 2) (by omega) hL
  have in3 : vp_in (nI i + 3) L := lw_in (i := i) (k := 3) (by omega) hL
  have in4 : vp_in (nI i + 4) L := lw_in (i := i) (k := 4) (by omega) hL
  refine lv_aload_n S.1 S.2.1 d_law_281 rfl (lv_at hl 1 rfl) ?_
  refine lv_aload_n S.1 S.2.1 d_law_282 rfl (lv_at hl 0 rfl) ?_
  refine lv_iload_n S.1 S.2.1 d_law_283 rfl (lv_at hl 3 rfl) ?_
  refine lv_iconst (v := 1) S.1 S.2.1 d_law_284 (by decide) ?_
  refine lv_iadd S.1 S.2.1 d_law_285 ?_
  refine va_sld S.1 S.2.1 hX hbl hbA hS in1 d_law_286 ?_
  refine lv_aload_n S.1 S.2.1 d_law_287 rfl (lv_at hl 0 rfl) ?_
  refine lv_iload_n S.1 S.2.1 d_law_288 rfl (lv_at hl 3 rfl) ?_
  refine lv_iconst (v := 2) S.1 S.2.1 d_law_289 (by decide) ?_
  refine lv_iadd S.1 S.2.1 d_law_290 ?_
  refine va_sld S.1 S.2.1 hX hbl hbA hS in2 d_law_291 ?_
  obtain ⟨o, sc1, sm1, e1, e2, hpr1⟩ := s_dist hn hpr (xs (nI i + 1).toNatClampNeg) (xs (nI i + 2).toNatClampNeg)
  refine lw_c1 (out := (o, sc1)) (As := [.int (xs (nI i + 1).toNatClampNeg), .int (xs (nI i + 2).toNatClampNeg)]) (rest := []) S hK hF (C_D_distance hn (lwA_D hF.1) l (xs (nI i + 1).toNatClampNeg) (xs (nI i + 2).toNatClampNeg) sc (o, sc1) e1) zn_D_distance rfl (hlk _ (List.mem_of_getElem? (i := 10) rfl)) ⟨rfl, rfl⟩ ⟨Nat.le_of_ble_eq_true rfl, Nat.le_of_ble_eq_true rfl⟩ hcs hl.1 (Nat.le_of_ble_eq_true rfl) hS hP1 hP2 d_law_292 rfl (fun H1 hS hP1 hP2 => ?_)
  refine lv_aload_n S.1 S.2.1 d_law_295 rfl (lv_at hl 2 rfl) ?_
  refine lv_aload_n S.1 S.2.1 d_law_296 rfl (lv_at hl 0 rfl) ?_
  refine lv_iload_n S.1 S.2.1 d_law_297 rfl (lv_at hl 3 rfl) ?_
  refine lv_iconst (v := 1) S.1 S.2.1 d_law_298 (by decide) ?_
  refine lv_iadd S.1 S.2.1 d_law_299 ?_
  refine va_sld S.1 S.2.1 hX hbl hbA hS in1 d_law_300 ?_
  refine lv_aload_n S.1 S.2.1 d_law_301 rfl (lv_at hl 0 rfl) ?_
  refine lv_iload_n S.1 S.2.1 d_law_302 rfl (lv_at hl 3 rfl) ?_
  refine lv_iconst (v := 2) S.1 S.2.1 d_law_303 (by decide) ?_
  refine lv_iadd S.1 S.2.1 d_law_304 ?_
  refine va_sld S.1 S.2.1 hX hbl hbA hS in2 d_law_305 ?_
  refine lw_c2 (out := (o, sm1)) (As := [.int (xs (nI i + 1).toNatClampNeg), .int (xs (nI i + 2).toNatClampNeg)]) (rest := [.int o]) S hK hF (C_M_distance hn (lwA_D hF.2.1) l (xs (nI i + 1).toNatClampNeg) (xs (nI i + 2).toNatClampNeg) sm (o, sm1) e2) zn_M_distance rfl (hlk _ (List.mem_of_getElem? (i := 11) rfl)) ⟨rfl, rfl⟩ ⟨Nat.le_of_ble_eq_true rfl, Nat.le_of_ble_eq_true rfl⟩ hcs hl.1 (Nat.le_of_ble_eq_true rfl) hS hP1 hP2 d_law_306 rfl (fun H2 hS hP1 hP2 => ?_)
  refine lv_icmp_eq (tgt := 641) S.1 S.2.1 d_law_309 (by decide) (fun h => ?_) (fun h => ?_)
  · first | exact kk H2 sc1 sm1 hS hP1 hP2 hpr1 | exact absurd rfl h
  · first | exact kk H2 sc1 sm1 hS hP1 hP2 hpr1 | exact absurd rfl h
set_option maxHeartbeats 4000000 in
theorem lw_k6 (S : CallFix p m c code 4 s #[Value.ref b] zT "DiffusingRoutesLaw") (hlk : ∀ w ∈ lwL, w.before #[Value.ref b] s = true) (hX : va_X b L xs s s.heap) (hbl : b < s.heap.size) (hn : 2 ≤ n ∧ n ≤ 6) (hK : va_K (dC, dI) zcl (zty cI cZ cR cA) s) (hF : lwF n ad1 ad2 s) (hcs : cells ≤ room_1.cells ∧ slots ≤ room_1.slots) (hL : L ≤ 2561) (hi : i + 4 < L) (hl : lv_has ls 4 [(0, .ref b), (1, .ref (ad1 (0, 0))), (2, .ref (ad2 (0, 0))), (3, .int (nI i))]) (hS : va_S (lwN s) s.heap H []) (hP1 : zV (dC, dI) zcl (zKs n) ad1 (zcE n cI cZ cR cA ad1) sc H) (hP2 : zV (dC, dI) zcl zKm ad2 (zmE n cI cZ ad2) sm H) (hpr : zPr n sc sm) (kk : ∀ (H1 : Heap) (sc1 sm1 : zS), va_S (lwN s) s.heap H1 [] → zV (dC, dI) zcl (zKs n) ad1 (zcE n cI cZ cR cA ad1) sc1 H1 → zV (dC, dI) zcl zKm ad2 (zmE n cI cZ ad2) sm1 H1 → zPr n sc1 sm1 → W p l e room_1 s m #[Value.ref b] below meth c H1 [] cells slots Q (F0 m 641 ls [])) : W p l e room_1 s m #[Value.ref b] below meth c H [] cells slots Q (F0 m 314 ls []) := by
  have hbA : ¬ lwN s b := fun h => absurd hbl (Nat.not_lt.mpr h)
  have in1 : vp_in (nI i + 1) L := lw_in (i := i) (k := 1) (by omega) hL
  have in2 : vp_in (nI i + 2) L := lw_in (i := i) (k := 2) (by omega) hL
  have in3 : vp_in (nI i + 3) L := lw_in (i := i) (k := 3) (by omega) hL
  have in4 : vp_in (nI i + 4) L := lw_in (i := i) (k := 4) (by omega) hL
  refine lv_aload_n S.1 S.2.1 d_law_314 rfl (lv_at hl 1 rfl) ?_
  refine lv_aload_n S.1 S.2.1 d_law_315 rfl (lv_at hl 0 rfl) ?_
  refine lv_iload_n S.1 S.2.1 d_law_316 rfl (lv_at hl 3 rfl) ?_
  refine lv_iconst (v := 1) S.1 S.2.1 d_law_317 (by decide) ?_
  refine lv_iadd S.1 S.2.1 d_law_318 ?_
  refine va_sld S.1 S.2.1 hX hbl hbA hS in1 d_law_319 ?_
  refine lv_aload_n S.1 S.2.1 d_law_320 rfl (lv_at hl 0 rfl) ?_
  refine lv_iload_n S.1 S.2.1 d_law_321 rfl (lv_at hl 3 rfl) ?_
  refine lv_iconst (v := 2) S.1 S.2.1 d_law_322 (by decide) ?_
  refine lv_iadd S.1 S.2.1 d_law_323 ?_
  refine va_sld S.1 S.2.1 hX hbl hbA hS in2 d_law_324 ?_
  obtain ⟨o, sc1, sm1, e1, e2, hpr1⟩ := s_limit hn hpr (xs (nI i + 1).toNatClampNeg) (xs (nI i + 2).toNatClampNeg)
  refine lw_c1 (out := (o, sc1)) (As := [.int (xs (nI i + 1).toNatClampNeg), .int (xs (nI i + 2).toNatClampNeg)]) (rest := []) S hK hF (C_D_limit hn (lwA_D hF.1) l (xs (nI i + 1).toNatClampNeg) (xs (nI i + 2).toNatClampNeg) sc (o, sc1) e1) zn_D_limit rfl (hlk _ (List.mem_of_getElem? (i := 12) rfl)) ⟨rfl, rfl⟩ ⟨Nat.le_of_ble_eq_true rfl, Nat.le_of_ble_eq_true rfl⟩ hcs hl.1 (Nat.le_of_ble_eq_true rfl) hS hP1 hP2 d_law_325 rfl (fun H1 hS hP1 hP2 => ?_)
  refine lv_aload_n S.1 S.2.1 d_law_328 rfl (lv_at hl 2 rfl) ?_
  refine lv_aload_n S.1 S.2.1 d_law_329 rfl (lv_at hl 0 rfl) ?_
  refine lv_iload_n S.1 S.2.1 d_law_330 rfl (lv_at hl 3 rfl) ?_
  refine lv_iconst (v := 1) S.1 S.2.1 d_law_331 (by decide) ?_
  refine lv_iadd S.1 S.2.1 d_law_332 ?_
  refine va_sld S.1 S.2.1 hX hbl hbA hS in1 d_law_333 ?_
  refine lv_aload_n S.1 S.2.1 d_law_334 rfl (lv_at hl 0 rfl) ?_
  refine lv_iload_n S.1 S.2.1 d_law_335 rfl (lv_at hl 3 rfl) ?_
  refine lv_iconst (v := 2) S.1 S.2.1 d_law_336 (by decide) ?_
  refine lv_iadd S.1 S.2.1 d_law_337 ?_
  refine va_sld S.1 S.2.1 hX hbl hbA hS in2 d_law_338 ?_
  refine lw_c2 (out := (o, sm1)) (As := [.int (xs (nI i + 1).toNatClampNeg), .int (xs (nI i + 2).toNatClampNeg)]) (rest := [.int o]) S hK hF (C_M_limit hn (lwA_D hF.2.1) l (xs (nI i + 1).toNatClampNeg) (xs (nI i + 2).toNatClampNeg) sm (o, sm1) e2) zn_M_limit rfl (hlk _ (List.mem_of_getElem? (i := 13) rfl)) ⟨rfl, rfl⟩ ⟨Nat.le_of_ble_eq_true rfl, Nat.le_of_ble_eq_true rfl⟩ hcs hl.1 (Nat.le_of_ble_eq_true rfl) hS hP1 hP2 d_law_339 rfl (fun H2 hS hP1 hP2 => ?_)
  refine lv_icmp_eq (tgt := 641) S.1 S.2.1 d_law_342 (by decide) (fun h => ?_) (fun h => ?_)
  · first | exact kk H2 sc1 sm1 hS hP1 hP2 hpr1 | exact absurd rfl h
  · first | exact kk H2 sc1 sm1 hS hP1 hP2 hpr1 | exact absurd rfl h
set_option maxHeartbeats 4000000 in
theorem lw_k7 (S : CallFix p m c code 4 s #[Value.ref b] zT "DiffusingRoutesLaw") (hlk : ∀ w ∈ lwL, w.before #[Value.ref b] s = true) (hX : va_X b L xs s s.heap) (hbl : b < s.heap.size) (hn : 2 ≤ n ∧ n ≤ 6) (hK : va_K (dC, dI) zcl (zty cI cZ cR cA) s) (hF : lwF n ad1 ad2 s) (hcs : cells ≤ room_1.cells ∧ slots ≤ room_1.slots) (hL : L ≤ 2561) (hi : i + 4 < L) (hl : lv_has ls 4 [(0, .ref b), (1, .ref (ad1 (0, 0))), (2, .ref (ad2 (0, 0))), (3, .int (nI i))]) (hS : va_S (lwN s) s.heap H []) (hP1 : zV (dC, dI) zcl (zKs n) ad1 (zcE n cI cZ cR cA ad1) sc H) (hP2 : zV (dC, dI) zcl zKm ad2 (zmE n cI cZ ad2) sm H) (hpr : zPr n sc sm) (kk : ∀ (H1 : Heap) (sc1 sm1 : zS), va_S (lwN s) s.heap H1 [] → zV (dC, dI) zcl (zKs n) ad1 (zcE n cI cZ cR cA ad1) sc1 H1 → zV (dC, dI) zcl zKm ad2 (zmE n cI cZ ad2) sm1 H1 → zPr n sc1 sm1 → W p l e room_1 s m #[Value.ref b] below meth c H1 [] cells slots Q (F0 m 641 ls [])) : W p l e room_1 s m #[Value.ref b] below meth c H [] cells slots Q (F0 m 347 ls []) := by
  have hbA : ¬ lwN s b := fun h => absurd hbl (Nat.not_lt.mpr h)
  have in1 : vp_in (nI i + 1) L := lw_in (i := i) (k := 1) (by omega) hL
  have in2 : vp_in (nI i + 2) L := lw_in (i := i) (k := 2) (by omega) hL
  have in3 : vp_in (nI i + 3) L := lw_in (i := i) (k := 3) (by omega) hL
  have in4 : vp_in (nI i + 4) L := lw_in (i := i) (k := 4) (by omega) hL
  refine lv_aload_n S.1 S.2.1 d_law_347 rfl (lv_at hl 1 rfl) ?_
  refine lv_aload_n S.1 S.2.1 d_law_348 rfl (lv_at hl 0 rfl) ?_
  refine lv_iload_n S.1 S.2.1 d_law_349 rfl (lv_at hl 3 rfl) ?_
  refine lv_iconst (v := 1) S.1 S.2.1 d_law_350 (by decide) ?_
  refine lv_iadd S.1 S.2.1 d_law_351 ?_
  refine va_sld S.1 S.2.1 hX hbl hbA hS in1 d_law_352 ?_
  refine lv_aload_n S.1 S.2.1 d_law_353 rfl (lv_at hl 0 rfl) ?_
  refine lv_iload_n S.1 S.2.1 d_law_354 rfl (lv_at hl 3 rfl) ?_
  refine lv_iconst (v := 2) S.1 S.2.1 d_law_355 (by decide) ?_
  refine lv_iadd S.1 S.2.1 d_law_356 ?_
  refine va_sld S.1 S.2.1 hX hbl hbA hS in2 d_law_357 ?_
  obtain ⟨o, sc1, sm1, e1, e2, hpr1⟩ := s_next hn hpr (xs (nI i + 1).toNatClampNeg) (xs (nI i + 2).toNatClampNeg)
  refine lw_c1 (out := (o, sc1)) (As := [.int (xs (nI i + 1).toNatClampNeg), .int (xs (nI i + 2).toNatClampNeg)]) (rest := []) S hK hF (C_D_next hn (lwA_D hF.1) l (xs (nI i + 1).toNatClampNeg) (xs (nI i + 2).toNatClampNeg) sc (o, sc1) e1) zn_D_next rfl (hlk _ (List.mem_of_getElem? (i := 14) rfl)) ⟨rfl, rfl⟩ ⟨Nat.le_of_ble_eq_true rfl, Nat.le_of_ble_eq_true rfl⟩ hcs hl.1 (Nat.le_of_ble_eq_true rfl) hS hP1 hP2 d_law_358 rfl (fun H1 hS hP1 hP2 => ?_)
  refine lv_aload_n S.1 S.2.1 d_law_361 rfl (lv_at hl 2 rfl) ?_
  refine lv_aload_n S.1 S.2.1 d_law_362 rfl (lv_at hl 0 rfl) ?_
  refine lv_iload_n S.1 S.2.1 d_law_363 rfl (lv_at hl 3 rfl) ?_
  refine lv_iconst (v := 1) S.1 S.2.1 d_law_364 (by decide) ?_
  refine lv_iadd S.1 S.2.1 d_law_365 ?_
  refine va_sld S.1 S.2.1 hX hbl hbA hS in1 d_law_366 ?_
  refine lv_aload_n S.1 S.2.1 d_law_367 rfl (lv_at hl 0 rfl) ?_
  refine lv_iload_n S.1 S.2.1 d_law_368 rfl (lv_at hl 3 rfl) ?_
  refine lv_iconst (v := 2) S.1 S.2.1 d_law_369 (by decide) ?_
  refine lv_iadd S.1 S.2.1 d_law_370 ?_
  refine va_sld S.1 S.2.1 hX hbl hbA hS in2 d_law_371 ?_
  refine lw_c2 (out := (o, sm1)) (As := [.int (xs (nI i + 1).toNatClampNeg), .int (xs (nI i + 2).toNatClampNeg)]) (rest := [.int o]) S hK hF (C_M_next hn (lwA_D hF.2.1) l (xs (nI i + 1).toNatClampNeg) (xs (nI i + 2).toNatClampNeg) sm (o, sm1) e2) zn_M_next rfl (hlk _ (List.mem_of_getElem? (i := 15) rfl)) ⟨rfl, rfl⟩ ⟨Nat.le_of_ble_eq_true rfl, Nat.le_of_ble_eq_true rfl⟩ hcs hl.1 (Nat.le_of_ble_eq_true rfl) hS hP1 hP2 d_law_372 rfl (fun H2 hS hP1 hP2 => ?_)
  refine lv_icmp_eq (tgt := 641) S.1 S.2.1 d_law_375 (by decide) (fun h => ?_) (fun h => ?_)
  · first | exact kk H2 sc1 sm1 hS hP1 hP2 hpr1 | exact absurd rfl h
  · first | exact kk H2 sc1 sm1 hS hP1 hP2 hpr1 | exact absurd rfl h
set_option maxHeartbeats 4000000 in
theorem lw_k8 (S : CallFix p m c code 4 s #[Value.ref b] zT "DiffusingRoutesLaw") (hlk : ∀ w ∈ lwL, w.before #[Value.ref b] s = true) (hX : va_X b L xs s s.heap) (hbl : b < s.heap.size) (hn : 2 ≤ n ∧ n ≤ 6) (hK : va_K (dC, dI) zcl (zty cI cZ cR cA) s) (hF : lwF n ad1 ad2 s) (hcs : cells ≤ room_1.cells ∧ slots ≤ room_1.slots) (hL : L ≤ 2561) (hi : i + 4 < L) (hl : lv_has ls 4 [(0, .ref b), (1, .ref (ad1 (0, 0))), (2, .ref (ad2 (0, 0))), (3, .int (nI i))]) (hS : va_S (lwN s) s.heap H []) (hP1 : zV (dC, dI) zcl (zKs n) ad1 (zcE n cI cZ cR cA ad1) sc H) (hP2 : zV (dC, dI) zcl zKm ad2 (zmE n cI cZ ad2) sm H) (hpr : zPr n sc sm) (kk : ∀ (H1 : Heap) (sc1 sm1 : zS), va_S (lwN s) s.heap H1 [] → zV (dC, dI) zcl (zKs n) ad1 (zcE n cI cZ cR cA ad1) sc1 H1 → zV (dC, dI) zcl zKm ad2 (zmE n cI cZ ad2) sm1 H1 → zPr n sc1 sm1 → W p l e room_1 s m #[Value.ref b] below meth c H1 [] cells slots Q (F0 m 641 ls [])) : W p l e room_1 s m #[Value.ref b] below meth c H [] cells slots Q (F0 m 380 ls []) := by
  have hbA : ¬ lwN s b := fun h => absurd hbl (Nat.not_lt.mpr h)
  have in1 : vp_in (nI i + 1) L := lw_in (i := i) (k := 1) (by omega) hL
  have in2 : vp_in (nI i + 2) L := lw_in (i := i) (k := 2) (by omega) hL
  have in3 : vp_in (nI i + 3) L := lw_in (i := i) (k := 3) (by omega) hL
  have in4 : vp_in (nI i + 4) L := lw_in (i := i) (k := 4) (by omega) hL
  refine lv_aload_n S.1 S.2.1 d_law_380 rfl (lv_at hl 1 rfl) ?_
  refine lv_aload_n S.1 S.2.1 d_law_381 rfl (lv_at hl 0 rfl) ?_
  refine lv_iload_n S.1 S.2.1 d_law_382 rfl (lv_at hl 3 rfl) ?_
  refine lv_iconst (v := 1) S.1 S.2.1 d_law_383 (by decide) ?_
  refine lv_iadd S.1 S.2.1 d_law_384 ?_
  refine va_sld S.1 S.2.1 hX hbl hbA hS in1 d_law_385 ?_
  refine lv_aload_n S.1 S.2.1 d_law_386 rfl (lv_at hl 0 rfl) ?_
  refine lv_iload_n S.1 S.2.1 d_law_387 rfl (lv_at hl 3 rfl) ?_
  refine lv_iconst (v := 2) S.1 S.2.1 d_law_388 (by decide) ?_
  refine lv_iadd S.1 S.2.1 d_law_389 ?_
  refine va_sld S.1 S.2.1 hX hbl hbA hS in2 d_law_390 ?_
  obtain ⟨o, sc1, sm1, e1, e2, hpr1⟩ := s_state hn hpr (xs (nI i + 1).toNatClampNeg) (xs (nI i + 2).toNatClampNeg)
  refine lw_c1 (out := (o, sc1)) (As := [.int (xs (nI i + 1).toNatClampNeg), .int (xs (nI i + 2).toNatClampNeg)]) (rest := []) S hK hF (C_D_state hn (lwA_D hF.1) l (xs (nI i + 1).toNatClampNeg) (xs (nI i + 2).toNatClampNeg) sc (o, sc1) e1) zn_D_state rfl (hlk _ (List.mem_of_getElem? (i := 16) rfl)) ⟨rfl, rfl⟩ ⟨Nat.le_of_ble_eq_true rfl, Nat.le_of_ble_eq_true rfl⟩ hcs hl.1 (Nat.le_of_ble_eq_true rfl) hS hP1 hP2 d_law_391 rfl (fun H1 hS hP1 hP2 => ?_)
  refine lv_aload_n S.1 S.2.1 d_law_394 rfl (lv_at hl 2 rfl) ?_
  refine lv_aload_n S.1 S.2.1 d_law_395 rfl (lv_at hl 0 rfl) ?_
  refine lv_iload_n S.1 S.2.1 d_law_396 rfl (lv_at hl 3 rfl) ?_
  refine lv_iconst (v := 1) S.1 S.2.1 d_law_397 (by decide) ?_
  refine lv_iadd S.1 S.2.1 d_law_398 ?_
  refine va_sld S.1 S.2.1 hX hbl hbA hS in1 d_law_399 ?_
  refine lv_aload_n S.1 S.2.1 d_law_400 rfl (lv_at hl 0 rfl) ?_
  refine lv_iload_n S.1 S.2.1 d_law_401 rfl (lv_at hl 3 rfl) ?_
  refine lv_iconst (v := 2) S.1 S.2.1 d_law_402 (by decide) ?_
  refine lv_iadd S.1 S.2.1 d_law_403 ?_
  refine va_sld S.1 S.2.1 hX hbl hbA hS in2 d_law_404 ?_
  refine lw_c2 (out := (o, sm1)) (As := [.int (xs (nI i + 1).toNatClampNeg), .int (xs (nI i + 2).toNatClampNeg)]) (rest := [.int o]) S hK hF (C_M_state hn (lwA_D hF.2.1) l (xs (nI i + 1).toNatClampNeg) (xs (nI i + 2).toNatClampNeg) sm (o, sm1) e2) zn_M_state rfl (hlk _ (List.mem_of_getElem? (i := 17) rfl)) ⟨rfl, rfl⟩ ⟨Nat.le_of_ble_eq_true rfl, Nat.le_of_ble_eq_true rfl⟩ hcs hl.1 (Nat.le_of_ble_eq_true rfl) hS hP1 hP2 d_law_405 rfl (fun H2 hS hP1 hP2 => ?_)
  refine lv_icmp_eq (tgt := 641) S.1 S.2.1 d_law_408 (by decide) (fun h => ?_) (fun h => ?_)
  · first | exact kk H2 sc1 sm1 hS hP1 hP2 hpr1 | exact absurd rfl h
  · first | exact kk H2 sc1 sm1 hS hP1 hP2 hpr1 | exact absurd rfl h
set_option maxHeartbeats 4000000 in
theorem lw_k9 (S : CallFix p m c code 4 s #[Value.ref b] zT "DiffusingRoutesLaw") (hlk : ∀ w ∈ lwL, w.before #[Value.ref b] s = true) (hX : va_X b L xs s s.heap) (hbl : b < s.heap.size) (hn : 2 ≤ n ∧ n ≤ 6) (hK : va_K (dC, dI) zcl (zty cI cZ cR cA) s) (hF : lwF n ad1 ad2 s) (hcs : cells ≤ room_1.cells ∧ slots ≤ room_1.slots) (hL : L ≤ 2561) (hi : i + 4 < L) (hl : lv_has ls 4 [(0, .ref b), (1, .ref (ad1 (0, 0))), (2, .ref (ad2 (0, 0))), (3, .int (nI i))]) (hS : va_S (lwN s) s.heap H []) (hP1 : zV (dC, dI) zcl (zKs n) ad1 (zcE n cI cZ cR cA ad1) sc H) (hP2 : zV (dC, dI) zcl zKm ad2 (zmE n cI cZ ad2) sm H) (hpr : zPr n sc sm) (kk : ∀ (H1 : Heap) (sc1 sm1 : zS), va_S (lwN s) s.heap H1 [] → zV (dC, dI) zcl (zKs n) ad1 (zcE n cI cZ cR cA ad1) sc1 H1 → zV (dC, dI) zcl zKm ad2 (zmE n cI cZ ad2) sm1 H1 → zPr n sc1 sm1 → W p l e room_1 s m #[Value.ref b] below meth c H1 [] cells slots Q (F0 m 641 ls [])) : W p l e room_1 s m #[Value.ref b] below meth c H [] cells slots Q (F0 m 413 ls []) := by
  have hbA : ¬ lwN s b := fun h => absurd hbl (Nat.not_lt.mpr h)
  have in1 : vp_in (nI i + 1) L := lw_in (i := i) (k := 1) (by omega) hL
  have in2 : vp_in (nI i + 2) L := lw_in (i := i) (k := 2) (by omega) hL
  have in3 : vp_in (nI i + 3) L := lw_in (i := i) (k := 3) (by omega) hL
  have in4 : vp_in (nI i + 4) L := lw_in (i := i) (k := 4) (by omega) hL
  refine lv_aload_n S.1 S.2.1 d_law_413 rfl (lv_at hl 1 rfl) ?_
  refine lv_aload_n S.1 S.2.1 d_law_414 rfl (lv_at hl 0 rfl) ?_
  refine lv_iload_n S.1 S.2.1 d_law_415 rfl (lv_at hl 3 rfl) ?_
  refine lv_iconst (v := 1) S.1 S.2.1 d_law_416 (by decide) ?_
  refine lv_iadd S.1 S.2.1 d_law_417 ?_
  refine va_sld S.1 S.2.1 hX hbl hbA hS in1 d_law_418 ?_
  refine lv_aload_n S.1 S.2.1 d_law_419 rfl (lv_at hl 0 rfl) ?_
  refine lv_iload_n S.1 S.2.1 d_law_420 rfl (lv_at hl 3 rfl) ?_
  refine lv_iconst (v := 2) S.1 S.2.1 d_law_421 (by decide) ?_
  refine lv_iadd S.1 S.2.1 d_law_422 ?_
  refine va_sld S.1 S.2.1 hX hbl hbA hS in2 d_law_423 ?_
  refine lv_aload_n S.1 S.2.1 d_law_424 rfl (lv_at hl 0 rfl) ?_
  refine lv_iload_n S.1 S.2.1 d_law_425 rfl (lv_at hl 3 rfl) ?_
  refine lv_iconst (v := 3) S.1 S.2.1 d_law_426 (by decide) ?_
  refine lv_iadd S.1 S.2.1 d_law_427 ?_
  refine va_sld S.1 S.2.1 hX hbl hbA hS in3 d_law_428 ?_
  obtain ⟨o, sc1, sm1, e1, e2, hpr1⟩ := s_told hn hpr (xs (nI i + 1).toNatClampNeg) (xs (nI i + 2).toNatClampNeg) (xs (nI i + 3).toNatClampNeg)
  refine lw_c1 (out := (o, sc1)) (As := [.int (xs (nI i + 1).toNatClampNeg), .int (xs (nI i + 2).toNatClampNeg), .int (xs (nI i + 3).toNatClampNeg)]) (rest := []) S hK hF (C_D_told hn (lwA_D hF.1) l (xs (nI i + 1).toNatClampNeg) (xs (nI i + 2).toNatClampNeg) (xs (nI i + 3).toNatClampNeg) sc (o, sc1) e1) zn_D_told rfl (hlk _ (List.mem_of_getElem? (i := 18) rfl)) ⟨rfl, rfl⟩ ⟨Nat.le_of_ble_eq_true rfl, Nat.le_of_ble_eq_true rfl⟩ hcs hl.1 (Nat.le_of_ble_eq_true rfl) hS hP1 hP2 d_law_429 rfl (fun H1 hS hP1 hP2 => ?_)
  refine lv_aload_n S.1 S.2.1 d_law_432 rfl (lv_at hl 2 rfl) ?_
  refine lv_aload_n S.1 S.2.1 d_law_433 rfl (lv_at hl 0 rfl) ?_
  refine lv_iload_n S.1 S.2.1 d_law_434 rfl (lv_at hl 3 rfl) ?_
  refine lv_iconst (v := 1) S.1 S.2.1 d_law_435 (by decide) ?_
  refine lv_iadd S.1 S.2.1 d_law_436 ?_
  refine va_sld S.1 S.2.1 hX hbl hbA hS in1 d_law_437 ?_
  refine lv_aload_n S.1 S.2.1 d_law_438 rfl (lv_at hl 0 rfl) ?_
  refine lv_iload_n S.1 S.2.1 d_law_439 rfl (lv_at hl 3 rfl) ?_
  refine lv_iconst (v := 2) S.1 S.2.1 d_law_440 (by decide) ?_
  refine lv_iadd S.1 S.2.1 d_law_441 ?_
  refine va_sld S.1 S.2.1 hX hbl hbA hS in2 d_law_442 ?_
  refine lv_aload_n S.1 S.2.1 d_law_443 rfl (lv_at hl 0 rfl) ?_
  refine lv_iload_n S.1 S.2.1 d_law_444 rfl (lv_at hl 3 rfl) ?_
  refine lv_iconst (v := 3) S.1 S.2.1 d_law_445 (by decide) ?_
  refine lv_iadd S.1 S.2.1 d_law_446 ?_
  refine va_sld S.1 S.2.1 hX hbl hbA hS in3 d_law_447 ?_
  refine lw_c2 (out := (o, sm1)) (As := [.int (xs (nI i + 1).toNatClampNeg), .int (xs (nI i + 2).toNatClampNeg), .int (xs (nI i + 3).toNatClampNeg)]) (rest := [.int o]) S hK hF (C_M_told hn (lwA_D hF.2.1) l (xs (nI i + 1).toNatClampNeg) (xs (nI i + 2).toNatClampNeg) (xs (nI i + 3).toNatClampNeg) sm (o, sm1) e2) zn_M_told rfl (hlk _ (List.mem_of_getElem? (i := 19) rfl)) ⟨rfl, rfl⟩ ⟨Nat.le_of_ble_eq_true rfl, Nat.le_of_ble_eq_true rfl⟩ hcs hl.1 (Nat.le_of_ble_eq_true rfl) hS hP1 hP2 d_law_448 rfl (fun H2 hS hP1 hP2 => ?_)
  refine lv_icmp_eq (tgt := 641) S.1 S.2.1 d_law_451 (by decide) (fun h => ?_) (fun h => ?_)
  · first | exact kk H2 sc1 sm1 hS hP1 hP2 hpr1 | exact absurd rfl h
  · first | exact kk H2 sc1 sm1 hS hP1 hP2 hpr1 | exact absurd rfl h
set_option maxHeartbeats 4000000 in
theorem lw_k10 (S : CallFix p m c code 4 s #[Value.ref b] zT "DiffusingRoutesLaw") (hlk : ∀ w ∈ lwL, w.before #[Value.ref b] s = true) (hX : va_X b L xs s s.heap) (hbl : b < s.heap.size) (hn : 2 ≤ n ∧ n ≤ 6) (hK : va_K (dC, dI) zcl (zty cI cZ cR cA) s) (hF : lwF n ad1 ad2 s) (hcs : cells ≤ room_1.cells ∧ slots ≤ room_1.slots) (hL : L ≤ 2561) (hi : i + 4 < L) (hl : lv_has ls 4 [(0, .ref b), (1, .ref (ad1 (0, 0))), (2, .ref (ad2 (0, 0))), (3, .int (nI i))]) (hS : va_S (lwN s) s.heap H []) (hP1 : zV (dC, dI) zcl (zKs n) ad1 (zcE n cI cZ cR cA ad1) sc H) (hP2 : zV (dC, dI) zcl zKm ad2 (zmE n cI cZ ad2) sm H) (hpr : zPr n sc sm) (kk : ∀ (H1 : Heap) (sc1 sm1 : zS), va_S (lwN s) s.heap H1 [] → zV (dC, dI) zcl (zKs n) ad1 (zcE n cI cZ cR cA ad1) sc1 H1 → zV (dC, dI) zcl zKm ad2 (zmE n cI cZ ad2) sm1 H1 → zPr n sc1 sm1 → W p l e room_1 s m #[Value.ref b] below meth c H1 [] cells slots Q (F0 m 641 ls [])) : W p l e room_1 s m #[Value.ref b] below meth c H [] cells slots Q (F0 m 456 ls []) := by
  have hbA : ¬ lwN s b := fun h => absurd hbl (Nat.not_lt.mpr h)
  have in1 : vp_in (nI i + 1) L := lw_in (i := i) (k := 1) (by omega) hL
  have in2 : vp_in (nI i + 2) L := lw_in (i := i) (k := 2) (by omega) hL
  have in3 : vp_in (nI i + 3) L := lw_in (i := i) (k := 3) (by omega) hL
  have in4 : vp_in (nI i + 4) L := lw_in (i := i) (k := 4) (by omega) hL
  refine lv_aload_n S.1 S.2.1 d_law_456 rfl (lv_at hl 1 rfl) ?_
  refine lv_aload_n S.1 S.2.1 d_law_457 rfl (lv_at hl 0 rfl) ?_
  refine lv_iload_n S.1 S.2.1 d_law_458 rfl (lv_at hl 3 rfl) ?_
  refine lv_iconst (v := 1) S.1 S.2.1 d_law_459 (by decide) ?_
  refine lv_iadd S.1 S.2.1 d_law_460 ?_
  refine va_sld S.1 S.2.1 hX hbl hbA hS in1 d_law_461 ?_
  refine lv_aload_n S.1 S.2.1 d_law_462 rfl (lv_at hl 0 rfl) ?_
  refine lv_iload_n S.1 S.2.1 d_law_463 rfl (lv_at hl 3 rfl) ?_
  refine lv_iconst (v := 2) S.1 S.2.1 d_law_464 (by decide) ?_
  refine lv_iadd S.1 S.2.1 d_law_465 ?_
  refine va_sld S.1 S.2.1 hX hbl hbA hS in2 d_law_466 ?_
  refine lv_aload_n S.1 S.2.1 d_law_467 rfl (lv_at hl 0 rfl) ?_
  refine lv_iload_n S.1 S.2.1 d_law_468 rfl (lv_at hl 3 rfl) ?_
  refine lv_iconst (v := 3) S.1 S.2.1 d_law_469 (by decide) ?_
  refine lv_iadd S.1 S.2.1 d_law_470 ?_
  refine va_sld S.1 S.2.1 hX hbl hbA hS in3 d_law_471 ?_
  obtain ⟨o, sc1, sm1, e1, e2, hpr1⟩ := s_waits hn hpr (xs (nI i + 1).toNatClampNeg) (xs (nI i + 2).toNatClampNeg) (xs (nI i + 3).toNatClampNeg)
  refine lw_c1 (out := (o, sc1)) (As := [.int (xs (nI i + 1).toNatClampNeg), .int (xs (nI i + 2).toNatClampNeg), .int (xs (nI i + 3).toNatClampNeg)]) (rest := []) S hK hF (C_D_waits hn (lwA_D hF.1) l (xs (nI i + 1).toNatClampNeg) (xs (nI i + 2).toNatClampNeg) (xs (nI i + 3).toNatClampNeg) sc (o, sc1) e1) zn_D_waits rfl (hlk _ (List.mem_of_getElem? (i := 20) rfl)) ⟨rfl, rfl⟩ ⟨Nat.le_of_ble_eq_true rfl, Nat.le_of_ble_eq_true rfl⟩ hcs hl.1 (Nat.le_of_ble_eq_true rfl) hS hP1 hP2 d_law_472 rfl (fun H1 hS hP1 hP2 => ?_)
  refine lv_aload_n S.1 S.2.1 d_law_475 rfl (lv_at hl 2 rfl) ?_
  refine lv_aload_n S.1 S.2.1 d_law_476 rfl (lv_at hl 0 rfl) ?_
  refine lv_iload_n S.1 S.2.1 d_law_477 rfl (lv_at hl 3 rfl) ?_
  refine lv_iconst (v := 1) S.1 S.2.1 d_law_478 (by decide) ?_
  refine lv_iadd S.1 S.2.1 d_law_479 ?_
  refine va_sld S.1 S.2.1 hX hbl hbA hS in1 d_law_480 ?_
  refine lv_aload_n S.1 S.2.1 d_law_481 rfl (lv_at hl 0 rfl) ?_
  refine lv_iload_n S.1 S.2.1 d_law_482 rfl (lv_at hl 3 rfl) ?_
  refine lv_iconst (v := 2) S.1 S.2.1 d_law_483 (by decide) ?_
  refine lv_iadd S.1 S.2.1 d_law_484 ?_
  refine va_sld S.1 S.2.1 hX hbl hbA hS in2 d_law_485 ?_
  refine lv_aload_n S.1 S.2.1 d_law_486 rfl (lv_at hl 0 rfl) ?_
  refine lv_iload_n S.1 S.2.1 d_law_487 rfl (lv_at hl 3 rfl) ?_
  refine lv_iconst (v := 3) S.1 S.2.1 d_law_488 (by decide) ?_
  refine lv_iadd S.1 S.2.1 d_law_489 ?_
  refine va_sld S.1 S.2.1 hX hbl hbA hS in3 d_law_490 ?_
  refine lw_c2 (out := (o, sm1)) (As := [.int (xs (nI i + 1).toNatClampNeg), .int (xs (nI i + 2).toNatClampNeg), .int (xs (nI i + 3).toNatClampNeg)]) (rest := [.int o]) S hK hF (C_M_waits hn (lwA_D hF.2.1) l (xs (nI i + 1).toNatClampNeg) (xs (nI i + 2).toNatClampNeg) (xs (nI i + 3).toNatClampNeg) sm (o, sm1) e2) zn_M_waits rfl (hlk _ (List.mem_of_getElem? (i := 21) rfl)) ⟨rfl, rfl⟩ ⟨Nat.le_of_ble_eq_true rfl, Nat.le_of_ble_eq_true rfl⟩ hcs hl.1 (Nat.le_of_ble_eq_true rfl) hS hP1 hP2 d_law_491 rfl (fun H2 hS hP1 hP2 => ?_)
  refine lv_icmp_eq (tgt := 641) S.1 S.2.1 d_law_494 (by decide) (fun h => ?_) (fun h => ?_)
  · first | exact kk H2 sc1 sm1 hS hP1 hP2 hpr1 | exact absurd rfl h
  · first | exact kk H2 sc1 sm1 hS hP1 hP2 hpr1 | exact absurd rfl h
set_option maxHeartbeats 4000000 in
theorem lw_k11 (S : CallFix p m c code 4 s #[Value.ref b] zT "DiffusingRoutesLaw") (hlk : ∀ w ∈ lwL, w.before #[Value.ref b] s = true) (hX : va_X b L xs s s.heap) (hbl : b < s.heap.size) (hn : 2 ≤ n ∧ n ≤ 6) (hK : va_K (dC, dI) zcl (zty cI cZ cR cA) s) (hF : lwF n ad1 ad2 s) (hcs : cells ≤ room_1.cells ∧ slots ≤ room_1.slots) (hL : L ≤ 2561) (hi : i + 4 < L) (hl : lv_has ls 4 [(0, .ref b), (1, .ref (ad1 (0, 0))), (2, .ref (ad2 (0, 0))), (3, .int (nI i))]) (hS : va_S (lwN s) s.heap H []) (hP1 : zV (dC, dI) zcl (zKs n) ad1 (zcE n cI cZ cR cA ad1) sc H) (hP2 : zV (dC, dI) zcl zKm ad2 (zmE n cI cZ ad2) sm H) (hpr : zPr n sc sm) (kk : ∀ (H1 : Heap) (sc1 sm1 : zS), va_S (lwN s) s.heap H1 [] → zV (dC, dI) zcl (zKs n) ad1 (zcE n cI cZ cR cA ad1) sc1 H1 → zV (dC, dI) zcl zKm ad2 (zmE n cI cZ ad2) sm1 H1 → zPr n sc1 sm1 → W p l e room_1 s m #[Value.ref b] below meth c H1 [] cells slots Q (F0 m 641 ls [])) : W p l e room_1 s m #[Value.ref b] below meth c H [] cells slots Q (F0 m 499 ls []) := by
  have hbA : ¬ lwN s b := fun h => absurd hbl (Nat.not_lt.mpr h)
  have in1 : vp_in (nI i + 1) L := lw_in (i := i) (k := 1) (by omega) hL
  have in2 : vp_in (nI i + 2) L := lw_in (i := i) (k := 2) (by omega) hL
  have in3 : vp_in (nI i + 3) L := lw_in (i := i) (k := 3) (by omega) hL
  have in4 : vp_in (nI i + 4) L := lw_in (i := i) (k := 4) (by omega) hL
  refine lv_aload_n S.1 S.2.1 d_law_499 rfl (lv_at hl 1 rfl) ?_
  refine lv_aload_n S.1 S.2.1 d_law_500 rfl (lv_at hl 0 rfl) ?_
  refine lv_iload_n S.1 S.2.1 d_law_501 rfl (lv_at hl 3 rfl) ?_
  refine lv_iconst (v := 1) S.1 S.2.1 d_law_502 (by decide) ?_
  refine lv_iadd S.1 S.2.1 d_law_503 ?_
  refine va_sld S.1 S.2.1 hX hbl hbA hS in1 d_law_504 ?_
  refine lv_aload_n S.1 S.2.1 d_law_505 rfl (lv_at hl 0 rfl) ?_
  refine lv_iload_n S.1 S.2.1 d_law_506 rfl (lv_at hl 3 rfl) ?_
  refine lv_iconst (v := 2) S.1 S.2.1 d_law_507 (by decide) ?_
  refine lv_iadd S.1 S.2.1 d_law_508 ?_
  refine va_sld S.1 S.2.1 hX hbl hbA hS in2 d_law_509 ?_
  obtain ⟨o, sc1, sm1, e1, e2, hpr1⟩ := s_flight hn hpr (xs (nI i + 1).toNatClampNeg) (xs (nI i + 2).toNatClampNeg)
  refine lw_c1 (out := (o, sc1)) (As := [.int (xs (nI i + 1).toNatClampNeg), .int (xs (nI i + 2).toNatClampNeg)]) (rest := []) S hK hF (C_D_flight hn (lwA_D hF.1) l (xs (nI i + 1).toNatClampNeg) (xs (nI i + 2).toNatClampNeg) sc (o, sc1) e1) zn_D_flight rfl (hlk _ (List.mem_of_getElem? (i := 22) rfl)) ⟨rfl, rfl⟩ ⟨Nat.le_of_ble_eq_true rfl, Nat.le_of_ble_eq_true rfl⟩ hcs hl.1 (Nat.le_of_ble_eq_true rfl) hS hP1 hP2 d_law_510 rfl (fun H1 hS hP1 hP2 => ?_)
  refine lv_aload_n S.1 S.2.1 d_law_513 rfl (lv_at hl 2 rfl) ?_
  refine lv_aload_n S.1 S.2.1 d_law_514 rfl (lv_at hl 0 rfl) ?_
  refine lv_iload_n S.1 S.2.1 d_law_515 rfl (lv_at hl 3 rfl) ?_
  refine lv_iconst (v := 1) S.1 S.2.1 d_law_516 (by decide) ?_
  refine lv_iadd S.1 S.2.1 d_law_517 ?_
  refine va_sld S.1 S.2.1 hX hbl hbA hS in1 d_law_518 ?_
  refine lv_aload_n S.1 S.2.1 d_law_519 rfl (lv_at hl 0 rfl) ?_
  refine lv_iload_n S.1 S.2.1 d_law_520 rfl (lv_at hl 3 rfl) ?_
  refine lv_iconst (v := 2) S.1 S.2.1 d_law_521 (by decide) ?_
  refine lv_iadd S.1 S.2.1 d_law_522 ?_
  refine va_sld S.1 S.2.1 hX hbl hbA hS in2 d_law_523 ?_
  refine lw_c2 (out := (o, sm1)) (As := [.int (xs (nI i + 1).toNatClampNeg), .int (xs (nI i + 2).toNatClampNeg)]) (rest := [.int o]) S hK hF (C_M_flight hn (lwA_D hF.2.1) l (xs (nI i + 1).toNatClampNeg) (xs (nI i + 2).toNatClampNeg) sm (o, sm1) e2) zn_M_flight rfl (hlk _ (List.mem_of_getElem? (i := 23) rfl)) ⟨rfl, rfl⟩ ⟨Nat.le_of_ble_eq_true rfl, Nat.le_of_ble_eq_true rfl⟩ hcs hl.1 (Nat.le_of_ble_eq_true rfl) hS hP1 hP2 d_law_524 rfl (fun H2 hS hP1 hP2 => ?_)
  refine lv_icmp_eq (tgt := 641) S.1 S.2.1 d_law_527 (by decide) (fun h => ?_) (fun h => ?_)
  · first | exact kk H2 sc1 sm1 hS hP1 hP2 hpr1 | exact absurd rfl h
  · first | exact kk H2 sc1 sm1 hS hP1 hP2 hpr1 | exact absurd rfl h
set_option maxHeartbeats 4000000 in
theorem lw_k12 (S : CallFix p m c code 4 s #[Value.ref b] zT "DiffusingRoutesLaw") (hlk : ∀ w ∈ lwL, w.before #[Value.ref b] s = true) (hX : va_X b L xs s s.heap) (hbl : b < s.heap.size) (hn : 2 ≤ n ∧ n ≤ 6) (hK : va_K (dC, dI) zcl (zty cI cZ cR cA) s) (hF : lwF n ad1 ad2 s) (hcs : cells ≤ room_1.cells ∧ slots ≤ room_1.slots) (hL : L ≤ 2561) (hi : i + 4 < L) (hl : lv_has ls 4 [(0, .ref b), (1, .ref (ad1 (0, 0))), (2, .ref (ad2 (0, 0))), (3, .int (nI i))]) (hS : va_S (lwN s) s.heap H []) (hP1 : zV (dC, dI) zcl (zKs n) ad1 (zcE n cI cZ cR cA ad1) sc H) (hP2 : zV (dC, dI) zcl zKm ad2 (zmE n cI cZ ad2) sm H) (hpr : zPr n sc sm) (kk : ∀ (H1 : Heap) (sc1 sm1 : zS), va_S (lwN s) s.heap H1 [] → zV (dC, dI) zcl (zKs n) ad1 (zcE n cI cZ cR cA ad1) sc1 H1 → zV (dC, dI) zcl zKm ad2 (zmE n cI cZ ad2) sm1 H1 → zPr n sc1 sm1 → W p l e room_1 s m #[Value.ref b] below meth c H1 [] cells slots Q (F0 m 641 ls [])) : W p l e room_1 s m #[Value.ref b] below meth c H [] cells slots Q (F0 m 532 ls []) := by
  have hbA : ¬ lwN s b := fun h => absurd hbl (Nat.not_lt.mpr h)
  have in1 : vp_in (nI i + 1) L := lw_in (i := i) (k := 1) (by omega) hL
  have in2 : vp_in (nI i + 2) L := lw_in (i := i) (k := 2) (by omega) hL
  have in3 : vp_in (nI i + 3) L := lw_in (i := i) (k := 3) (by omega) hL
  have in4 : vp_in (nI i + 4) L := lw_in (i := i) (k := 4) (by omega) hL
  refine lv_aload_n S.1 S.2.1 d_law_532 rfl (lv_at hl 1 rfl) ?_
  refine lv_aload_n S.1 S.2.1 d_law_533 rfl (lv_at hl 0 rfl) ?_
  refine lv_iload_n S.1 S.2.1 d_law_534 rfl (lv_at hl 3 rfl) ?_
  refine lv_iconst (v := 1) S.1 S.2.1 d_law_535 (by decide) ?_
  refine lv_iadd S.1 S.2.1 d_law_536 ?_
  refine va_sld S.1 S.2.1 hX hbl hbA hS in1 d_law_537 ?_
  refine lv_aload_n S.1 S.2.1 d_law_538 rfl (lv_at hl 0 rfl) ?_
  refine lv_iload_n S.1 S.2.1 d_law_539 rfl (lv_at hl 3 rfl) ?_
  refine lv_iconst (v := 2) S.1 S.2.1 d_law_540 (by decide) ?_
  refine lv_iadd S.1 S.2.1 d_law_541 ?_
  refine va_sld S.1 S.2.1 hX hbl hbA hS in2 d_law_542 ?_
  refine lv_aload_n S.1 S.2.1 d_law_543 rfl (lv_at hl 0 rfl) ?_
  refine lv_iload_n S.1 S.2.1 d_law_544 rfl (lv_at hl 3 rfl) ?_
  refine lv_iconst (v := 3) S.1 S.2.1 d_law_545 (by decide) ?_
  refine lv_iadd S.1 S.2.1 d_law_546 ?_
  refine va_sld S.1 S.2.1 hX hbl hbA hS in3 d_law_547 ?_
  refine lv_aload_n S.1 S.2.1 d_law_548 rfl (lv_at hl 0 rfl) ?_
  refine lv_iload_n S.1 S.2.1 d_law_549 rfl (lv_at hl 3 rfl) ?_
  refine lv_iconst (v := 4) S.1 S.2.1 d_law_550 (by decide) ?_
  refine lv_iadd S.1 S.2.1 d_law_551 ?_
  refine va_sld S.1 S.2.1 hX hbl hbA hS in4 d_law_552 ?_
  obtain ⟨o, sc1, sm1, e1, e2, hpr1⟩ := s_mess hn hpr (xs (nI i + 1).toNatClampNeg) (xs (nI i + 2).toNatClampNeg) (xs (nI i + 3).toNatClampNeg) (xs (nI i + 4).toNatClampNeg)
  refine lw_c1 (out := (o, sc1)) (As := [.int (xs (nI i + 1).toNatClampNeg), .int (xs (nI i + 2).toNatClampNeg), .int (xs (nI i + 3).toNatClampNeg), .int (xs (nI i + 4).toNatClampNeg)]) (rest := []) S hK hF (C_D_message hn (lwA_D hF.1) l (xs (nI i + 1).toNatClampNeg) (xs (nI i + 2).toNatClampNeg) (xs (nI i + 3).toNatClampNeg) (xs (nI i + 4).toNatClampNeg) sc (o, sc1) e1) zn_D_message rfl (hlk _ (List.mem_of_getElem? (i := 24) rfl)) ⟨rfl, rfl⟩ ⟨Nat.le_of_ble_eq_true rfl, Nat.le_of_ble_eq_true rfl⟩ hcs hl.1 (Nat.le_of_ble_eq_true rfl) hS hP1 hP2 d_law_553 rfl (fun H1 hS hP1 hP2 => ?_)
  refine lv_aload_n S.1 S.2.1 d_law_556 rfl (lv_at hl 2 rfl) ?_
  refine lv_aload_n S.1 S.2.1 d_law_557 rfl (lv_at hl 0 rfl) ?_
  refine lv_iload_n S.1 S.2.1 d_law_558 rfl (lv_at hl 3 rfl) ?_
  refine lv_iconst (v := 1) S.1 S.2.1 d_law_559 (by decide) ?_
  refine lv_iadd S.1 S.2.1 d_law_560 ?_
  refine va_sld S.1 S.2.1 hX hbl hbA hS in1 d_law_561 ?_
  refine lv_aload_n S.1 S.2.1 d_law_562 rfl (lv_at hl 0 rfl) ?_
  refine lv_iload_n S.1 S.2.1 d_law_563 rfl (lv_at hl 3 rfl) ?_
  refine lv_iconst (v := 2) S.1 S.2.1 d_law_564 (by decide) ?_
  refine lv_iadd S.1 S.2.1 d_law_565 ?_
  refine va_sld S.1 S.2.1 hX hbl hbA hS in2 d_law_566 ?_
  refine lv_aload_n S.1 S.2.1 d_law_567 rfl (lv_at hl 0 rfl) ?_
  refine lv_iload_n S.1 S.2.1 d_law_568 rfl (lv_at hl 3 rfl) ?_
  refine lv_iconst (v := 3) S.1 S.2.1 d_law_569 (by decide) ?_
  refine lv_iadd S.1 S.2.1 d_law_570 ?_
  refine va_sld S.1 S.2.1 hX hbl hbA hS in3 d_law_571 ?_
  refine lv_aload_n S.1 S.2.1 d_law_572 rfl (lv_at hl 0 rfl) ?_
  refine lv_iload_n S.1 S.2.1 d_law_573 rfl (lv_at hl 3 rfl) ?_
  refine lv_iconst (v := 4) S.1 S.2.1 d_law_574 (by decide) ?_
  refine lv_iadd S.1 S.2.1 d_law_575 ?_
  refine va_sld S.1 S.2.1 hX hbl hbA hS in4 d_law_576 ?_
  refine lw_c2 (out := (o, sm1)) (As := [.int (xs (nI i + 1).toNatClampNeg), .int (xs (nI i + 2).toNatClampNeg), .int (xs (nI i + 3).toNatClampNeg), .int (xs (nI i + 4).toNatClampNeg)]) (rest := [.int o]) S hK hF (C_M_message hn (lwA_D hF.2.1) l (xs (nI i + 1).toNatClampNeg) (xs (nI i + 2).toNatClampNeg) (xs (nI i + 3).toNatClampNeg) (xs (nI i + 4).toNatClampNeg) sm (o, sm1) e2) zn_M_message rfl (hlk _ (List.mem_of_getElem? (i := 25) rfl)) ⟨rfl, rfl⟩ ⟨Nat.le_of_ble_eq_true rfl, Nat.le_of_ble_eq_true rfl⟩ hcs hl.1 (Nat.le_of_ble_eq_true rfl) hS hP1 hP2 d_law_577 rfl (fun H2 hS hP1 hP2 => ?_)
  refine lv_icmp_eq (tgt := 641) S.1 S.2.1 d_law_580 (by decide) (fun h => ?_) (fun h => ?_)
  · first | exact kk H2 sc1 sm1 hS hP1 hP2 hpr1 | exact absurd rfl h
  · first | exact kk H2 sc1 sm1 hS hP1 hP2 hpr1 | exact absurd rfl h
set_option maxHeartbeats 4000000 in
theorem lw_k13 (S : CallFix p m c code 4 s #[Value.ref b] zT "DiffusingRoutesLaw") (hlk : ∀ w ∈ lwL, w.before #[Value.ref b] s = true) (hX : va_X b L xs s s.heap) (hbl : b < s.heap.size) (hn : 2 ≤ n ∧ n ≤ 6) (hK : va_K (dC, dI) zcl (zty cI cZ cR cA) s) (hF : lwF n ad1 ad2 s) (hcs : cells ≤ room_1.cells ∧ slots ≤ room_1.slots) (hL : L ≤ 2561) (hi : i + 4 < L) (hl : lv_has ls 4 [(0, .ref b), (1, .ref (ad1 (0, 0))), (2, .ref (ad2 (0, 0))), (3, .int (nI i))]) (hS : va_S (lwN s) s.heap H []) (hP1 : zV (dC, dI) zcl (zKs n) ad1 (zcE n cI cZ cR cA ad1) sc H) (hP2 : zV (dC, dI) zcl zKm ad2 (zmE n cI cZ ad2) sm H) (hpr : zPr n sc sm) (kk : ∀ (H1 : Heap) (sc1 sm1 : zS), va_S (lwN s) s.heap H1 [] → zV (dC, dI) zcl (zKs n) ad1 (zcE n cI cZ cR cA ad1) sc1 H1 → zV (dC, dI) zcl zKm ad2 (zmE n cI cZ ad2) sm1 H1 → zPr n sc1 sm1 → W p l e room_1 s m #[Value.ref b] below meth c H1 [] cells slots Q (F0 m 641 ls [])) : W p l e room_1 s m #[Value.ref b] below meth c H [] cells slots Q (F0 m 585 ls []) := by
  have hbA : ¬ lwN s b := fun h => absurd hbl (Nat.not_lt.mpr h)
  have in1 : vp_in (nI i + 1) L := lw_in (i := i) (k := 1) (by omega) hL
  have in2 : vp_in (nI i + 2) L := lw_in (i := i) (k := 2) (by omega) hL
  have in3 : vp_in (nI i + 3) L := lw_in (i := i) (k := 3) (by omega) hL
  have in4 : vp_in (nI i + 4) L := lw_in (i := i) (k := 4) (by omega) hL
  refine lv_aload_n S.1 S.2.1 d_law_585 rfl (lv_at hl 1 rfl) ?_
  refine lv_aload_n S.1 S.2.1 d_law_586 rfl (lv_at hl 0 rfl) ?_
  refine lv_iload_n S.1 S.2.1 d_law_587 rfl (lv_at hl 3 rfl) ?_
  refine lv_iconst (v := 1) S.1 S.2.1 d_law_588 (by decide) ?_
  refine lv_iadd S.1 S.2.1 d_law_589 ?_
  refine va_sld S.1 S.2.1 hX hbl hbA hS in1 d_law_590 ?_
  refine lv_aload_n S.1 S.2.1 d_law_591 rfl (lv_at hl 0 rfl) ?_
  refine lv_iload_n S.1 S.2.1 d_law_592 rfl (lv_at hl 3 rfl) ?_
  refine lv_iconst (v := 2) S.1 S.2.1 d_law_593 (by decide) ?_
  refine lv_iadd S.1 S.2.1 d_law_594 ?_
  refine va_sld S.1 S.2.1 hX hbl hbA hS in2 d_law_595 ?_
  obtain ⟨o, sc1, sm1, e1, e2, hpr1⟩ := s_hops hn hpr (xs (nI i + 1).toNatClampNeg) (xs (nI i + 2).toNatClampNeg)
  refine lw_c1 (out := (o, sc1)) (As := [.int (xs (nI i + 1).toNatClampNeg), .int (xs (nI i + 2).toNatClampNeg)]) (rest := []) S hK hF (C_D_hops hn (lwA_D hF.1) l (xs (nI i + 1).toNatClampNeg) (xs (nI i + 2).toNatClampNeg) sc (o, sc1) e1) zn_D_hops rfl (hlk _ (List.mem_of_getElem? (i := 26) rfl)) ⟨rfl, rfl⟩ ⟨Nat.le_of_ble_eq_true rfl, Nat.le_of_ble_eq_true rfl⟩ hcs hl.1 (Nat.le_of_ble_eq_true rfl) hS hP1 hP2 d_law_596 rfl (fun H1 hS hP1 hP2 => ?_)
  refine lv_aload_n S.1 S.2.1 d_law_599 rfl (lv_at hl 2 rfl) ?_
  refine lv_aload_n S.1 S.2.1 d_law_600 rfl (lv_at hl 0 rfl) ?_
  refine lv_iload_n S.1 S.2.1 d_law_601 rfl (lv_at hl 3 rfl) ?_
  refine lv_iconst (v := 1) S.1 S.2.1 d_law_602 (by decide) ?_
  refine lv_iadd S.1 S.2.1 d_law_603 ?_
  refine va_sld S.1 S.2.1 hX hbl hbA hS in1 d_law_604 ?_
  refine lv_aload_n S.1 S.2.1 d_law_605 rfl (lv_at hl 0 rfl) ?_
  refine lv_iload_n S.1 S.2.1 d_law_606 rfl (lv_at hl 3 rfl) ?_
  refine lv_iconst (v := 2) S.1 S.2.1 d_law_607 (by decide) ?_
  refine lv_iadd S.1 S.2.1 d_law_608 ?_
  refine va_sld S.1 S.2.1 hX hbl hbA hS in2 d_law_609 ?_
  refine lw_c2 (out := (o, sm1)) (As := [.int (xs (nI i + 1).toNatClampNeg), .int (xs (nI i + 2).toNatClampNeg)]) (rest := [.int o]) S hK hF (C_M_hops hn (lwA_D hF.2.1) l (xs (nI i + 1).toNatClampNeg) (xs (nI i + 2).toNatClampNeg) sm (o, sm1) e2) zn_M_hops rfl (hlk _ (List.mem_of_getElem? (i := 27) rfl)) ⟨rfl, rfl⟩ ⟨Nat.le_of_ble_eq_true rfl, Nat.le_of_ble_eq_true rfl⟩ hcs hl.1 (Nat.le_of_ble_eq_true rfl) hS hP1 hP2 d_law_610 rfl (fun H2 hS hP1 hP2 => ?_)
  refine lv_icmp_eq (tgt := 641) S.1 S.2.1 d_law_613 (by decide) (fun h => ?_) (fun h => ?_)
  · first | exact kk H2 sc1 sm1 hS hP1 hP2 hpr1 | exact absurd rfl h
  · first | exact kk H2 sc1 sm1 hS hP1 hP2 hpr1 | exact absurd rfl h
set_option maxHeartbeats 4000000 in
theorem lw_k14 (S : CallFix p m c code 4 s #[Value.ref b] zT "DiffusingRoutesLaw") (hlk : ∀ w ∈ lwL, w.before #[Value.ref b] s = true) (hX : va_X b L xs s s.heap) (hbl : b < s.heap.size) (hn : 2 ≤ n ∧ n ≤ 6) (hK : va_K (dC, dI) zcl (zty cI cZ cR cA) s) (hF : lwF n ad1 ad2 s) (hcs : cells ≤ room_1.cells ∧ slots ≤ room_1.slots) (hL : L ≤ 2561) (hi : i + 4 < L) (hl : lv_has ls 4 [(0, .ref b), (1, .ref (ad1 (0, 0))), (2, .ref (ad2 (0, 0))), (3, .int (nI i))]) (hS : va_S (lwN s) s.heap H []) (hP1 : zV (dC, dI) zcl (zKs n) ad1 (zcE n cI cZ cR cA ad1) sc H) (hP2 : zV (dC, dI) zcl zKm ad2 (zmE n cI cZ ad2) sm H) (hpr : zPr n sc sm) (kk : ∀ (H1 : Heap) (sc1 sm1 : zS), va_S (lwN s) s.heap H1 [] → zV (dC, dI) zcl (zKs n) ad1 (zcE n cI cZ cR cA ad1) sc1 H1 → zV (dC, dI) zcl zKm ad2 (zmE n cI cZ ad2) sm1 H1 → zPr n sc1 sm1 → W p l e room_1 s m #[Value.ref b] below meth c H1 [] cells slots Q (F0 m 641 ls [])) : W p l e room_1 s m #[Value.ref b] below meth c H [] cells slots Q (F0 m 618 ls []) := by
  have hbA : ¬ lwN s b := fun h => absurd hbl (Nat.not_lt.mpr h)
  have in1 : vp_in (nI i + 1) L := lw_in (i := i) (k := 1) (by omega) hL
  have in2 : vp_in (nI i + 2) L := lw_in (i := i) (k := 2) (by omega) hL
  have in3 : vp_in (nI i + 3) L := lw_in (i := i) (k := 3) (by omega) hL
  have in4 : vp_in (nI i + 4) L := lw_in (i := i) (k := 4) (by omega) hL
  refine lv_aload_n S.1 S.2.1 d_law_618 rfl (lv_at hl 1 rfl) ?_
  refine lv_aload_n S.1 S.2.1 d_law_619 rfl (lv_at hl 0 rfl) ?_
  refine lv_iload_n S.1 S.2.1 d_law_620 rfl (lv_at hl 3 rfl) ?_
  refine lv_iconst (v := 1) S.1 S.2.1 d_law_621 (by decide) ?_
  refine lv_iadd S.1 S.2.1 d_law_622 ?_
  refine va_sld S.1 S.2.1 hX hbl hbA hS in1 d_law_623 ?_
  obtain ⟨o, sc1, sm1, e1, e2, hpr1⟩ := s_total hn hpr (xs (nI i + 1).toNatClampNeg)
  refine lw_c1 (out := (o, sc1)) (As := [.int (xs (nI i + 1).toNatClampNeg)]) (rest := []) S hK hF (C_D_total hn (lwA_D hF.1) l (xs (nI i + 1).toNatClampNeg) sc (o, sc1) e1) zn_D_total rfl (hlk _ (List.mem_of_getElem? (i := 28) rfl)) ⟨rfl, rfl⟩ ⟨Nat.le_of_ble_eq_true rfl, Nat.le_of_ble_eq_true rfl⟩ hcs hl.1 (Nat.le_of_ble_eq_true rfl) hS hP1 hP2 d_law_624 rfl (fun H1 hS hP1 hP2 => ?_)
  refine lv_aload_n S.1 S.2.1 d_law_627 rfl (lv_at hl 2 rfl) ?_
  refine lv_aload_n S.1 S.2.1 d_law_628 rfl (lv_at hl 0 rfl) ?_
  refine lv_iload_n S.1 S.2.1 d_law_629 rfl (lv_at hl 3 rfl) ?_
  refine lv_iconst (v := 1) S.1 S.2.1 d_law_630 (by decide) ?_
  refine lv_iadd S.1 S.2.1 d_law_631 ?_
  refine va_sld S.1 S.2.1 hX hbl hbA hS in1 d_law_632 ?_
  refine lw_c2 (out := (o, sm1)) (As := [.int (xs (nI i + 1).toNatClampNeg)]) (rest := [.int o]) S hK hF (C_M_total hn (lwA_D hF.2.1) l (xs (nI i + 1).toNatClampNeg) sm (o, sm1) e2) zn_M_total rfl (hlk _ (List.mem_of_getElem? (i := 29) rfl)) ⟨rfl, rfl⟩ ⟨Nat.le_of_ble_eq_true rfl, Nat.le_of_ble_eq_true rfl⟩ hcs hl.1 (Nat.le_of_ble_eq_true rfl) hS hP1 hP2 d_law_633 rfl (fun H2 hS hP1 hP2 => ?_)
  refine lv_icmp_eq (tgt := 641) S.1 S.2.1 d_law_636 (by decide) (fun h => ?_) (fun h => ?_)
  · first | exact kk H2 sc1 sm1 hS hP1 hP2 hpr1 | exact absurd rfl h
  · first | exact kk H2 sc1 sm1 hS hP1 hP2 hpr1 | exact absurd rfl h
theorem lw_sw14 {x : Int32} (h0 : ¬ x = 0) (h1 : ¬ x = 1) (h2 : ¬ x = 2) (h3 : ¬ x = 3) (h4 : ¬ x = 4) (h5 : ¬ x = 5) (h6 : ¬ x = 6) (h7 : ¬ x = 7) (h8 : ¬ x = 8) (h9 : ¬ x = 9) (h10 : ¬ x = 10) (h11 : ¬ x = 11) (h12 : ¬ x = 12) (h13 : ¬ x = 13) (h14 : ¬ x = 14) : x.toInt < 0 ∨ 14 < x.toInt := by
  have e0 : x.toInt ≠ 0 := fun h => h0 (Int32.toInt_inj.mp h)
  have e1 : x.toInt ≠ 1 := fun h => h1 (Int32.toInt_inj.mp h)
  have e2 : x.toInt ≠ 2 := fun h => h2 (Int32.toInt_inj.mp h)
  have e3 : x.toInt ≠ 3 := fun h => h3 (Int32.toInt_inj.mp h)
  have e4 : x.toInt ≠ 4 := fun h => h4 (Int32.toInt_inj.mp h)
  have e5 : x.toInt ≠ 5 := fun h => h5 (Int32.toInt_inj.mp h)
  have e6 : x.toInt ≠ 6 := fun h => h6 (Int32.toInt_inj.mp h)
  have e7 : x.toInt ≠ 7 := fun h => h7 (Int32.toInt_inj.mp h)
  have e8 : x.toInt ≠ 8 := fun h => h8 (Int32.toInt_inj.mp h)
  have e9 : x.toInt ≠ 9 := fun h => h9 (Int32.toInt_inj.mp h)
  have e10 : x.toInt ≠ 10 := fun h => h10 (Int32.toInt_inj.mp h)
  have e11 : x.toInt ≠ 11 := fun h => h11 (Int32.toInt_inj.mp h)
  have e12 : x.toInt ≠ 12 := fun h => h12 (Int32.toInt_inj.mp h)
  have e13 : x.toInt ≠ 13 := fun h => h13 (Int32.toInt_inj.mp h)
  have e14 : x.toInt ≠ 14 := fun h => h14 (Int32.toInt_inj.mp h)
  omega
theorem lw_le {i L : Nat} (hL : L ≤ 2561) (hi : i ≤ 5000) (h : ¬ nI L - 5 < nI i) : i + 4 < L := by
  rcases Nat.lt_or_ge L 5 with c | c
  · exfalso
    refine h (Int32.lt_of_lt_of_le (show nI L - 5 < 0 from ?_) (nI_le (a := 0) (b := i) (by omega) (by omega)))
    match L, c with
    | 0, _ => decide
    | 1, _ => decide
    | 2, _ => decide
    | 3, _ => decide
    | 4, _ => decide
  · have e : nI L - 5 = nI (L - 5) := pk_sub (a := L) (b := 5) c
    rw [e] at h
    rcases Nat.lt_or_ge (L - 5) i with g | g
    · exact absurd ((nI_ltI (by omega) (by omega)).mpr g) h
    · omega
set_option maxHeartbeats 4000000 in
theorem lw_loop (S : CallFix p m c code 4 s #[Value.ref b] zT "DiffusingRoutesLaw") (hlk : ∀ w ∈ lwL, w.before #[Value.ref b] s = true) (hX : va_X b L xs s s.heap) (hbl : b < s.heap.size) (hn : 2 ≤ n ∧ n ≤ 6) (hK : va_K (dC, dI) zcl (zty cI cZ cR cA) s) (hF : lwF n ad1 ad2 s) (hcs : cells ≤ room_1.cells ∧ slots ≤ room_1.slots) (hL : L ≤ 2561) (kk : ∀ (H1 : Heap) (ls1 : Array Slot), W p l e room_1 s m #[Value.ref b] below meth c H1 [] cells slots Q (F0 m 647 ls1 [])) : ∀ (f i : Nat) (ls : Array Slot) (H : Heap) (sc sm : zS), L + 5 - i < f → i ≤ L + 5 → lv_has ls 4 [(0, .ref b), (1, .ref (ad1 (0, 0))), (2, .ref (ad2 (0, 0))), (3, .int (nI i))] → va_S (lwN s) s.heap H [] → zV (dC, dI) zcl (zKs n) ad1 (zcE n cI cZ cR cA ad1) sc H → zV (dC, dI) zcl zKm ad2 (zmE n cI cZ ad2) sm H → zPr n sc sm → W p l e room_1 s m #[Value.ref b] below meth c H [] cells slots Q (F0 m 28 ls []) := by
  have hbA : ¬ lwN s b := fun h => absurd hbl (Nat.not_lt.mpr h)
  intro f
  induction f with
  | zero => intro i ls H sc sm h; omega
  | succ f ih =>
    intro i ls H sc sm hf hi5 hl hS hP1 hP2 hpr
    refine lv_iload_n S.1 S.2.1 d_law_28 rfl (lv_at hl 3 rfl) ?_
    refine lv_aload_n S.1 S.2.1 d_law_29 rfl (lv_at hl 0 rfl) ?_
    refine va_slen S.1 S.2.1 hX hbl hbA hS d_law_30 ?_
    refine lv_iconst (v := 5) S.1 S.2.1 d_law_31 (by decide) ?_
    refine lv_isub S.1 S.2.1 d_law_32 ?_
    refine lv_icmp_gt (tgt := 647) S.1 S.2.1 d_law_33 (by decide) (fun h33 => ?_) (fun h33 => ?_)
    · exact kk _ _
    have hi : i + 4 < L := lw_le hL (by omega) h33
    have in0 : vp_in (nI i) L := vp_in_nI (show i < L by omega) (by omega)
    refine lv_aload_n S.1 S.2.1 d_law_36 rfl (lv_at hl 0 rfl) ?_
    refine lv_iload_n S.1 S.2.1 d_law_37 rfl (lv_at hl 3 rfl) ?_
    refine va_sld S.1 S.2.1 hX hbl hbA hS in0 d_law_38 ?_
    refine lv_bipush (v := 15) S.1 S.2.1 d_law_39 (by decide) ?_
    refine lv_iand S.1 S.2.1 d_law_41 ?_
    have again : ∀ (H1 : Heap) (sc1 sm1 : zS), va_S (lwN s) s.heap H1 [] → zV (dC, dI) zcl (zKs n) ad1 (zcE n cI cZ cR cA ad1) sc1 H1 → zV (dC, dI) zcl zKm ad2 (zmE n cI cZ ad2) sm1 H1 → zPr n sc1 sm1 → W p l e room_1 s m #[Value.ref b] below meth c H1 [] cells slots Q (F0 m 641 ls []) := by
      intro H1 sc1 sm1 hS hP1 hP2 hpr
      refine lv_iinc (k := 3) (v := nI (i + 5)) S.1 S.2.1 d_law_641 hl rfl (by rw [← nI_add]; rfl) (by decide) rfl (fun ls hl => ?_)
      refine lv_goto (tgt := 28) S.1 S.2.1 d_law_644 (by decide) ?_
      exact ih (i + 5) ls H1 sc1 sm1 (by omega) (by omega) (lv_sub hl [1, 2, 3, 0] rfl) hS hP1 hP2 hpr
    generalize xs (nI i).toNatClampNeg &&& 15 = x
    by_cases x0 : x = 0
    · refine lv_tableIn (tgt := 116) (off := 74) S.1 S.2.1 d_law_42 (by rw [x0]; decide) (by rw [x0]; decide) (by rw [x0]; rfl) (by decide) ?_
      exact lw_k0 S hlk hX hbl hn hK hF hcs hL hi hl hS hP1 hP2 hpr again
    by_cases x1 : x = 1
    · refine lv_tableIn (tgt := 159) (off := 117) S.1 S.2.1 d_law_42 (by rw [x1]; decide) (by rw [x1]; decide) (by rw [x1]; rfl) (by decide) ?_
      exact lw_k1 S hlk hX hbl hn hK hF hcs hL hi hl hS hP1 hP2 hpr again
    by_cases x2 : x = 2
    · refine lv_tableIn (tgt := 192) (off := 150) S.1 S.2.1 d_law_42 (by rw [x2]; decide) (by rw [x2]; decide) (by rw [x2]; rfl) (by decide) ?_
      exact lw_k2 S hlk hX hbl hn hK hF hcs hL hi hl hS hP1 hP2 hpr again
    by_cases x3 : x = 3
    · refine lv_tableIn (tgt := 225) (off := 183) S.1 S.2.1 d_law_42 (by rw [x3]; decide) (by rw [x3]; decide) (by rw [x3]; rfl) (by decide) ?_
      exact lw_k3 S hlk hX hbl hn hK hF hcs hL hi hl hS hP1 hP2 hpr again
    by_cases x4 : x = 4
    · refine lv_tableIn (tgt := 248) (off := 206) S.1 S.2.1 d_law_42 (by rw [x4]; decide) (by rw [x4]; decide) (by rw [x4]; rfl) (by decide) ?_
      exact lw_k4 S hlk hX hbl hn hK hF hcs hL hi hl hS hP1 hP2 hpr again
    by_cases x5 : x = 5
    · refine lv_tableIn (tgt := 281) (off := 239) S.1 S.2.1 d_law_42 (by rw [x5]; decide) (by rw [x5]; decide) (by rw [x5]; rfl) (by decide) ?_
      exact lw_k5 S hlk hX hbl hn hK hF hcs hL hi hl hS hP1 hP2 hpr again
    by_cases x6 : x = 6
    · refine lv_tableIn (tgt := 314) (off := 272) S.1 S.2.1 d_law_42 (by rw [x6]; decide) (by rw [x6]; decide) (by rw [x6]; rfl) (by decide) ?_
      exact lw_k6 S hlk hX hbl hn hK hF hcs hL hi hl hS hP1 hP2 hpr again
    by_cases x7 : x = 7
    · refine lv_tableIn (tgt := 347) (off := 305) S.1 S.2.1 d_law_42 (by rw [x7]; decide) (by rw [x7]; decide) (by rw [x7]; rfl) (by decide) ?_
      exact lw_k7 S hlk hX hbl hn hK hF hcs hL hi hl hS hP1 hP2 hpr again
    by_cases x8 : x = 8
    · refine lv_tableIn (tgt := 380) (off := 338) S.1 S.2.1 d_law_42 (by rw [x8]; decide) (by rw [x8]; decide) (by rw [x8]; rfl) (by decide) ?_
      exact lw_k8 S hlk hX hbl hn hK hF hcs hL hi hl hS hP1 hP2 hpr again
    by_cases x9 : x = 9
    · refine lv_tableIn (tgt := 413) (off := 371) S.1 S.2.1 d_law_42 (by rw [x9]; decide) (by rw [x9]; decide) (by rw [x9]; rfl) (by decide) ?_
      exact lw_k9 S hlk hX hbl hn hK hF hcs hL hi hl hS hP1 hP2 hpr again
    by_cases x10 : x = 10
    · refine lv_tableIn (tgt := 456) (off := 414) S.1 S.2.1 d_law_42 (by rw [x10]; decide) (by rw [x10]; decide) (by rw [x10]; rfl) (by decide) ?_
      exact lw_k10 S hlk hX hbl hn hK hF hcs hL hi hl hS hP1 hP2 hpr again
    by_cases x11 : x = 11
    · refine lv_tableIn (tgt := 499) (off := 457) S.1 S.2.1 d_law_42 (by rw [x11]; decide) (by rw [x11]; decide) (by rw [x11]; rfl) (by decide) ?_
      exact lw_k11 S hlk hX hbl hn hK hF hcs hL hi hl hS hP1 hP2 hpr again
    by_cases x12 : x = 12
    · refine lv_tableIn (tgt := 532) (off := 490) S.1 S.2.1 d_law_42 (by rw [x12]; decide) (by rw [x12]; decide) (by rw [x12]; rfl) (by decide) ?_
      exact lw_k12 S hlk hX hbl hn hK hF hcs hL hi hl hS hP1 hP2 hpr again
    by_cases x13 : x = 13
    · refine lv_tableIn (tgt := 585) (off := 543) S.1 S.2.1 d_law_42 (by rw [x13]; decide) (by rw [x13]; decide) (by rw [x13]; rfl) (by decide) ?_
      exact lw_k13 S hlk hX hbl hn hK hF hcs hL hi hl hS hP1 hP2 hpr again
    by_cases x14 : x = 14
    · refine lv_tableIn (tgt := 618) (off := 576) S.1 S.2.1 d_law_42 (by rw [x14]; decide) (by rw [x14]; decide) (by rw [x14]; rfl) (by decide) ?_
      exact lw_k14 S hlk hX hbl hn hK hF hcs hL hi hl hS hP1 hP2 hpr again
    refine lv_tableOut (tgt := 641) S.1 S.2.1 d_law_42 (lw_sw14 x0 x1 x2 x3 x4 x5 x6 x7 x8 x9 x10 x11 x12 x13 x14) (by decide) ?_
    exact again H sc sm hS hP1 hP2 hpr
end LW
