theorem dLA_law_0 : decode cLA_law 0 = .ok (.new 7, 3) := by decide +kernel
theorem dLA_law_3 : decode cLA_law 3 = .ok (.dup, 1) := by decide +kernel
theorem dLA_law_4 : decode cLA_law 4 = .ok (.invokespecial 9, 3) := by decide +kernel
theorem dLA_law_7 : decode cLA_law 7 = .ok (.astore_n 1, 1) := by decide +kernel
theorem dLA_law_8 : decode cLA_law 8 = .ok (.new 10, 3) := by decide +kernel
theorem dLA_law_11 : decode cLA_law 11 = .ok (.dup, 1) := by decide +kernel
theorem dLA_law_12 : decode cLA_law 12 = .ok (.invokespecial 12, 3) := by decide +kernel
theorem dLA_law_15 : decode cLA_law 15 = .ok (.astore_n 2, 1) := by decide +kernel
theorem dLA_law_16 : decode cLA_law 16 = .ok (.iconst 0, 1) := by decide +kernel
theorem dLA_law_17 : decode cLA_law 17 = .ok (.istore_n 3, 1) := by decide +kernel
theorem dLA_law_18 : decode cLA_law 18 = .ok (.iload_n 3, 1) := by decide +kernel
theorem dLA_law_19 : decode cLA_law 19 = .ok (.aload_n 0, 1) := by decide +kernel
theorem dLA_law_20 : decode cLA_law 20 = .ok (.arraylength, 1) := by decide +kernel
theorem dLA_law_21 : decode cLA_law 21 = .ok (.iconst 4, 1) := by decide +kernel
theorem dLA_law_22 : decode cLA_law 22 = .ok (.isub, 1) := by decide +kernel
theorem dLA_law_23 : decode cLA_law 23 = .ok (.if_icmp .gt 565, 3) := by decide +kernel
theorem dLA_law_26 : decode cLA_law 26 = .ok (.aload_n 0, 1) := by decide +kernel
theorem dLA_law_27 : decode cLA_law 27 = .ok (.iload_n 3, 1) := by decide +kernel
theorem dLA_law_28 : decode cLA_law 28 = .ok (.iaload, 1) := by decide +kernel
theorem dLA_law_29 : decode cLA_law 29 = .ok (.bipush 31, 2) := by decide +kernel
theorem dLA_law_31 : decode cLA_law 31 = .ok (.iand, 1) := by decide +kernel
theorem dLA_law_32 : decode cLA_law 32 = .ok (.tableswitch 550 0 18 #[92, 115, 128, 161, 174, 197, 240, 263, 286, 329, 352, 366, 399, 422, 445, 458, 491, 504, 537], 92) := by decide +kernel
theorem dLA_law_124 : decode cLA_law 124 = .ok (.aload_n 1, 1) := by decide +kernel
theorem dLA_law_125 : decode cLA_law 125 = .ok (.aload_n 0, 1) := by decide +kernel
theorem dLA_law_126 : decode cLA_law 126 = .ok (.iload_n 3, 1) := by decide +kernel
theorem dLA_law_127 : decode cLA_law 127 = .ok (.iconst 1, 1) := by decide +kernel
theorem dLA_law_128 : decode cLA_law 128 = .ok (.iadd, 1) := by decide +kernel
theorem dLA_law_129 : decode cLA_law 129 = .ok (.iaload, 1) := by decide +kernel
theorem dLA_law_130 : decode cLA_law 130 = .ok (.invokevirtual 13, 3) := by decide +kernel
theorem dLA_law_133 : decode cLA_law 133 = .ok (.aload_n 2, 1) := by decide +kernel
theorem dLA_law_134 : decode cLA_law 134 = .ok (.aload_n 0, 1) := by decide +kernel
theorem dLA_law_135 : decode cLA_law 135 = .ok (.iload_n 3, 1) := by decide +kernel
theorem dLA_law_136 : decode cLA_law 136 = .ok (.iconst 1, 1) := by decide +kernel
theorem dLA_law_137 : decode cLA_law 137 = .ok (.iadd, 1) := by decide +kernel
theorem dLA_law_138 : decode cLA_law 138 = .ok (.iaload, 1) := by decide +kernel
theorem dLA_law_139 : decode cLA_law 139 = .ok (.invokevirtual 17, 3) := by decide +kernel
theorem dLA_law_142 : decode cLA_law 142 = .ok (.if_icmp .eq 440, 3) := by decide +kernel
theorem dLA_law_145 : decode cLA_law 145 = .ok (.iconst 0, 1) := by decide +kernel
theorem dLA_law_146 : decode cLA_law 146 = .ok (.ireturn, 1) := by decide +kernel
theorem dLA_law_147 : decode cLA_law 147 = .ok (.aload_n 1, 1) := by decide +kernel
theorem dLA_law_148 : decode cLA_law 148 = .ok (.invokevirtual 18, 3) := by decide +kernel
theorem dLA_law_151 : decode cLA_law 151 = .ok (.aload_n 2, 1) := by decide +kernel
theorem dLA_law_152 : decode cLA_law 152 = .ok (.invokevirtual 22, 3) := by decide +kernel
theorem dLA_law_155 : decode cLA_law 155 = .ok (.if_icmp .eq 427, 3) := by decide +kernel
theorem dLA_law_158 : decode cLA_law 158 = .ok (.iconst 0, 1) := by decide +kernel
theorem dLA_law_159 : decode cLA_law 159 = .ok (.ireturn, 1) := by decide +kernel
theorem dLA_law_160 : decode cLA_law 160 = .ok (.aload_n 1, 1) := by decide +kernel
theorem dLA_law_161 : decode cLA_law 161 = .ok (.aload_n 0, 1) := by decide +kernel
theorem dLA_law_162 : decode cLA_law 162 = .ok (.iload_n 3, 1) := by decide +kernel
theorem dLA_law_163 : decode cLA_law 163 = .ok (.iconst 1, 1) := by decide +kernel
theorem dLA_law_164 : decode cLA_law 164 = .ok (.iadd, 1) := by decide +kernel
theorem dLA_law_165 : decode cLA_law 165 = .ok (.iaload, 1) := by decide +kernel
theorem dLA_law_166 : decode cLA_law 166 = .ok (.aload_n 0, 1) := by decide +kernel
theorem dLA_law_167 : decode cLA_law 167 = .ok (.iload_n 3, 1) := by decide +kernel
theorem dLA_law_168 : decode cLA_law 168 = .ok (.iconst 2, 1) := by decide +kernel
theorem dLA_law_169 : decode cLA_law 169 = .ok (.iadd, 1) := by decide +kernel
theorem dLA_law_170 : decode cLA_law 170 = .ok (.iaload, 1) := by decide +kernel
theorem dLA_law_171 : decode cLA_law 171 = .ok (.invokevirtual 23, 3) := by decide +kernel
theorem dLA_law_174 : decode cLA_law 174 = .ok (.aload_n 2, 1) := by decide +kernel
theorem dLA_law_175 : decode cLA_law 175 = .ok (.aload_n 0, 1) := by decide +kernel
theorem dLA_law_176 : decode cLA_law 176 = .ok (.iload_n 3, 1) := by decide +kernel
theorem dLA_law_177 : decode cLA_law 177 = .ok (.iconst 1, 1) := by decide +kernel
theorem dLA_law_178 : decode cLA_law 178 = .ok (.iadd, 1) := by decide +kernel
theorem dLA_law_179 : decode cLA_law 179 = .ok (.iaload, 1) := by decide +kernel
theorem dLA_law_180 : decode cLA_law 180 = .ok (.aload_n 0, 1) := by decide +kernel
theorem dLA_law_181 : decode cLA_law 181 = .ok (.iload_n 3, 1) := by decide +kernel
theorem dLA_law_182 : decode cLA_law 182 = .ok (.iconst 2, 1) := by decide +kernel
theorem dLA_law_183 : decode cLA_law 183 = .ok (.iadd, 1) := by decide +kernel
theorem dLA_law_184 : decode cLA_law 184 = .ok (.iaload, 1) := by decide +kernel
theorem dLA_law_185 : decode cLA_law 185 = .ok (.invokevirtual 27, 3) := by decide +kernel
theorem dLA_law_188 : decode cLA_law 188 = .ok (.if_icmp .eq 394, 3) := by decide +kernel
theorem dLA_law_191 : decode cLA_law 191 = .ok (.iconst 0, 1) := by decide +kernel
theorem dLA_law_192 : decode cLA_law 192 = .ok (.ireturn, 1) := by decide +kernel
theorem dLA_law_193 : decode cLA_law 193 = .ok (.aload_n 1, 1) := by decide +kernel
theorem dLA_law_194 : decode cLA_law 194 = .ok (.invokevirtual 28, 3) := by decide +kernel
theorem dLA_law_197 : decode cLA_law 197 = .ok (.aload_n 2, 1) := by decide +kernel
theorem dLA_law_198 : decode cLA_law 198 = .ok (.invokevirtual 31, 3) := by decide +kernel
theorem dLA_law_201 : decode cLA_law 201 = .ok (.if_icmp .eq 381, 3) := by decide +kernel
theorem dLA_law_204 : decode cLA_law 204 = .ok (.iconst 0, 1) := by decide +kernel
theorem dLA_law_205 : decode cLA_law 205 = .ok (.ireturn, 1) := by decide +kernel
theorem dLA_law_206 : decode cLA_law 206 = .ok (.aload_n 1, 1) := by decide +kernel
theorem dLA_law_207 : decode cLA_law 207 = .ok (.aload_n 0, 1) := by decide +kernel
theorem dLA_law_208 : decode cLA_law 208 = .ok (.iload_n 3, 1) := by decide +kernel
theorem dLA_law_209 : decode cLA_law 209 = .ok (.iconst 1, 1) := by decide +kernel
theorem dLA_law_210 : decode cLA_law 210 = .ok (.iadd, 1) := by decide +kernel
theorem dLA_law_211 : decode cLA_law 211 = .ok (.iaload, 1) := by decide +kernel
theorem dLA_law_212 : decode cLA_law 212 = .ok (.invokevirtual 32, 3) := by decide +kernel
theorem dLA_law_215 : decode cLA_law 215 = .ok (.aload_n 2, 1) := by decide +kernel
theorem dLA_law_216 : decode cLA_law 216 = .ok (.aload_n 0, 1) := by decide +kernel
theorem dLA_law_217 : decode cLA_law 217 = .ok (.iload_n 3, 1) := by decide +kernel
theorem dLA_law_218 : decode cLA_law 218 = .ok (.iconst 1, 1) := by decide +kernel
theorem dLA_law_219 : decode cLA_law 219 = .ok (.iadd, 1) := by decide +kernel
theorem dLA_law_220 : decode cLA_law 220 = .ok (.iaload, 1) := by decide +kernel
theorem dLA_law_221 : decode cLA_law 221 = .ok (.invokevirtual 36, 3) := by decide +kernel
theorem dLA_law_224 : decode cLA_law 224 = .ok (.if_icmp .eq 358, 3) := by decide +kernel
theorem dLA_law_227 : decode cLA_law 227 = .ok (.iconst 0, 1) := by decide +kernel
theorem dLA_law_228 : decode cLA_law 228 = .ok (.ireturn, 1) := by decide +kernel
theorem dLA_law_229 : decode cLA_law 229 = .ok (.aload_n 1, 1) := by decide +kernel
theorem dLA_law_230 : decode cLA_law 230 = .ok (.aload_n 0, 1) := by decide +kernel
theorem dLA_law_231 : decode cLA_law 231 = .ok (.iload_n 3, 1) := by decide +kernel
theorem dLA_law_232 : decode cLA_law 232 = .ok (.iconst 1, 1) := by decide +kernel
theorem dLA_law_233 : decode cLA_law 233 = .ok (.iadd, 1) := by decide +kernel
theorem dLA_law_234 : decode cLA_law 234 = .ok (.iaload, 1) := by decide +kernel
theorem dLA_law_235 : decode cLA_law 235 = .ok (.aload_n 0, 1) := by decide +kernel
theorem dLA_law_236 : decode cLA_law 236 = .ok (.iload_n 3, 1) := by decide +kernel
theorem dLA_law_237 : decode cLA_law 237 = .ok (.iconst 2, 1) := by decide +kernel
theorem dLA_law_238 : decode cLA_law 238 = .ok (.iadd, 1) := by decide +kernel
theorem dLA_law_239 : decode cLA_law 239 = .ok (.iaload, 1) := by decide +kernel
theorem dLA_law_240 : decode cLA_law 240 = .ok (.aload_n 0, 1) := by decide +kernel
theorem dLA_law_241 : decode cLA_law 241 = .ok (.iload_n 3, 1) := by decide +kernel
theorem dLA_law_242 : decode cLA_law 242 = .ok (.iconst 3, 1) := by decide +kernel
theorem dLA_law_243 : decode cLA_law 243 = .ok (.iadd, 1) := by decide +kernel
theorem dLA_law_244 : decode cLA_law 244 = .ok (.iaload, 1) := by decide +kernel
theorem dLA_law_245 : decode cLA_law 245 = .ok (.invokevirtual 37, 3) := by decide +kernel
theorem dLA_law_248 : decode cLA_law 248 = .ok (.aload_n 2, 1) := by decide +kernel
theorem dLA_law_249 : decode cLA_law 249 = .ok (.aload_n 0, 1) := by decide +kernel
theorem dLA_law_250 : decode cLA_law 250 = .ok (.iload_n 3, 1) := by decide +kernel
theorem dLA_law_251 : decode cLA_law 251 = .ok (.iconst 1, 1) := by decide +kernel
theorem dLA_law_252 : decode cLA_law 252 = .ok (.iadd, 1) := by decide +kernel
theorem dLA_law_253 : decode cLA_law 253 = .ok (.iaload, 1) := by decide +kernel
theorem dLA_law_254 : decode cLA_law 254 = .ok (.aload_n 0, 1) := by decide +kernel
theorem dLA_law_255 : decode cLA_law 255 = .ok (.iload_n 3, 1) := by decide +kernel
theorem dLA_law_256 : decode cLA_law 256 = .ok (.iconst 2, 1) := by decide +kernel
theorem dLA_law_257 : decode cLA_law 257 = .ok (.iadd, 1) := by decide +kernel
theorem dLA_law_258 : decode cLA_law 258 = .ok (.iaload, 1) := by decide +kernel
theorem dLA_law_259 : decode cLA_law 259 = .ok (.aload_n 0, 1) := by decide +kernel
theorem dLA_law_260 : decode cLA_law 260 = .ok (.iload_n 3, 1) := by decide +kernel
theorem dLA_law_261 : decode cLA_law 261 = .ok (.iconst 3, 1) := by decide +kernel
theorem dLA_law_262 : decode cLA_law 262 = .ok (.iadd, 1) := by decide +kernel
theorem dLA_law_263 : decode cLA_law 263 = .ok (.iaload, 1) := by decide +kernel
theorem dLA_law_264 : decode cLA_law 264 = .ok (.invokevirtual 41, 3) := by decide +kernel
theorem dLA_law_267 : decode cLA_law 267 = .ok (.if_icmp .eq 315, 3) := by decide +kernel
theorem dLA_law_270 : decode cLA_law 270 = .ok (.iconst 0, 1) := by decide +kernel
theorem dLA_law_271 : decode cLA_law 271 = .ok (.ireturn, 1) := by decide +kernel
theorem dLA_law_272 : decode cLA_law 272 = .ok (.aload_n 1, 1) := by decide +kernel
theorem dLA_law_273 : decode cLA_law 273 = .ok (.aload_n 0, 1) := by decide +kernel
theorem dLA_law_274 : decode cLA_law 274 = .ok (.iload_n 3, 1) := by decide +kernel
theorem dLA_law_275 : decode cLA_law 275 = .ok (.iconst 1, 1) := by decide +kernel
theorem dLA_law_276 : decode cLA_law 276 = .ok (.iadd, 1) := by decide +kernel
theorem dLA_law_277 : decode cLA_law 277 = .ok (.iaload, 1) := by decide +kernel
theorem dLA_law_278 : decode cLA_law 278 = .ok (.invokevirtual 42, 3) := by decide +kernel
theorem dLA_law_281 : decode cLA_law 281 = .ok (.aload_n 2, 1) := by decide +kernel
theorem dLA_law_282 : decode cLA_law 282 = .ok (.aload_n 0, 1) := by decide +kernel
theorem dLA_law_283 : decode cLA_law 283 = .ok (.iload_n 3, 1) := by decide +kernel
theorem dLA_law_284 : decode cLA_law 284 = .ok (.iconst 1, 1) := by decide +kernel
theorem dLA_law_285 : decode cLA_law 285 = .ok (.iadd, 1) := by decide +kernel
theorem dLA_law_286 : decode cLA_law 286 = .ok (.iaload, 1) := by decide +kernel
theorem dLA_law_287 : decode cLA_law 287 = .ok (.invokevirtual 45, 3) := by decide +kernel
theorem dLA_law_290 : decode cLA_law 290 = .ok (.if_icmp .eq 292, 3) := by decide +kernel
theorem dLA_law_293 : decode cLA_law 293 = .ok (.iconst 0, 1) := by decide +kernel
theorem dLA_law_294 : decode cLA_law 294 = .ok (.ireturn, 1) := by decide +kernel
theorem dLA_law_295 : decode cLA_law 295 = .ok (.aload_n 1, 1) := by decide +kernel
theorem dLA_law_296 : decode cLA_law 296 = .ok (.aload_n 0, 1) := by decide +kernel
theorem dLA_law_297 : decode cLA_law 297 = .ok (.iload_n 3, 1) := by decide +kernel
theorem dLA_law_298 : decode cLA_law 298 = .ok (.iconst 1, 1) := by decide +kernel
theorem dLA_law_299 : decode cLA_law 299 = .ok (.iadd, 1) := by decide +kernel
theorem dLA_law_300 : decode cLA_law 300 = .ok (.iaload, 1) := by decide +kernel
theorem dLA_law_301 : decode cLA_law 301 = .ok (.invokevirtual 46, 3) := by decide +kernel
theorem dLA_law_304 : decode cLA_law 304 = .ok (.aload_n 2, 1) := by decide +kernel
theorem dLA_law_305 : decode cLA_law 305 = .ok (.aload_n 0, 1) := by decide +kernel
theorem dLA_law_306 : decode cLA_law 306 = .ok (.iload_n 3, 1) := by decide +kernel
theorem dLA_law_307 : decode cLA_law 307 = .ok (.iconst 1, 1) := by decide +kernel
theorem dLA_law_308 : decode cLA_law 308 = .ok (.iadd, 1) := by decide +kernel
theorem dLA_law_309 : decode cLA_law 309 = .ok (.iaload, 1) := by decide +kernel
theorem dLA_law_310 : decode cLA_law 310 = .ok (.invokevirtual 49, 3) := by decide +kernel
theorem dLA_law_313 : decode cLA_law 313 = .ok (.if_icmp .eq 269, 3) := by decide +kernel
theorem dLA_law_316 : decode cLA_law 316 = .ok (.iconst 0, 1) := by decide +kernel
theorem dLA_law_317 : decode cLA_law 317 = .ok (.ireturn, 1) := by decide +kernel
theorem dLA_law_318 : decode cLA_law 318 = .ok (.aload_n 1, 1) := by decide +kernel
theorem dLA_law_319 : decode cLA_law 319 = .ok (.aload_n 0, 1) := by decide +kernel
theorem dLA_law_320 : decode cLA_law 320 = .ok (.iload_n 3, 1) := by decide +kernel
theorem dLA_law_321 : decode cLA_law 321 = .ok (.iconst 1, 1) := by decide +kernel
theorem dLA_law_322 : decode cLA_law 322 = .ok (.iadd, 1) := by decide +kernel
theorem dLA_law_323 : decode cLA_law 323 = .ok (.iaload, 1) := by decide +kernel
theorem dLA_law_324 : decode cLA_law 324 = .ok (.aload_n 0, 1) := by decide +kernel
theorem dLA_law_325 : decode cLA_law 325 = .ok (.iload_n 3, 1) := by decide +kernel
theorem dLA_law_326 : decode cLA_law 326 = .ok (.iconst 2, 1) := by decide +kernel
theorem dLA_law_327 : decode cLA_law 327 = .ok (.iadd, 1) := by decide +kernel
theorem dLA_law_328 : decode cLA_law 328 = .ok (.iaload, 1) := by decide +kernel
theorem dLA_law_329 : decode cLA_law 329 = .ok (.aload_n 0, 1) := by decide +kernel
theorem dLA_law_330 : decode cLA_law 330 = .ok (.iload_n 3, 1) := by decide +kernel
theorem dLA_law_331 : decode cLA_law 331 = .ok (.iconst 3, 1) := by decide +kernel
theorem dLA_law_332 : decode cLA_law 332 = .ok (.iadd, 1) := by decide +kernel
theorem dLA_law_333 : decode cLA_law 333 = .ok (.iaload, 1) := by decide +kernel
theorem dLA_law_334 : decode cLA_law 334 = .ok (.invokevirtual 50, 3) := by decide +kernel
theorem dLA_law_337 : decode cLA_law 337 = .ok (.aload_n 2, 1) := by decide +kernel
theorem dLA_law_338 : decode cLA_law 338 = .ok (.aload_n 0, 1) := by decide +kernel
theorem dLA_law_339 : decode cLA_law 339 = .ok (.iload_n 3, 1) := by decide +kernel
theorem dLA_law_340 : decode cLA_law 340 = .ok (.iconst 1, 1) := by decide +kernel
theorem dLA_law_341 : decode cLA_law 341 = .ok (.iadd, 1) := by decide +kernel
theorem dLA_law_342 : decode cLA_law 342 = .ok (.iaload, 1) := by decide +kernel
theorem dLA_law_343 : decode cLA_law 343 = .ok (.aload_n 0, 1) := by decide +kernel
theorem dLA_law_344 : decode cLA_law 344 = .ok (.iload_n 3, 1) := by decide +kernel
theorem dLA_law_345 : decode cLA_law 345 = .ok (.iconst 2, 1) := by decide +kernel
theorem dLA_law_346 : decode cLA_law 346 = .ok (.iadd, 1) := by decide +kernel
theorem dLA_law_347 : decode cLA_law 347 = .ok (.iaload, 1) := by decide +kernel
theorem dLA_law_348 : decode cLA_law 348 = .ok (.aload_n 0, 1) := by decide +kernel
theorem dLA_law_349 : decode cLA_law 349 = .ok (.iload_n 3, 1) := by decide +kernel
theorem dLA_law_350 : decode cLA_law 350 = .ok (.iconst 3, 1) := by decide +kernel
theorem dLA_law_351 : decode cLA_law 351 = .ok (.iadd, 1) := by decide +kernel
theorem dLA_law_352 : decode cLA_law 352 = .ok (.iaload, 1) := by decide +kernel
theorem dLA_law_353 : decode cLA_law 353 = .ok (.invokevirtual 53, 3) := by decide +kernel
theorem dLA_law_356 : decode cLA_law 356 = .ok (.if_icmp .eq 226, 3) := by decide +kernel
theorem dLA_law_359 : decode cLA_law 359 = .ok (.iconst 0, 1) := by decide +kernel
theorem dLA_law_360 : decode cLA_law 360 = .ok (.ireturn, 1) := by decide +kernel
theorem dLA_law_361 : decode cLA_law 361 = .ok (.aload_n 1, 1) := by decide +kernel
theorem dLA_law_362 : decode cLA_law 362 = .ok (.aload_n 0, 1) := by decide +kernel
theorem dLA_law_363 : decode cLA_law 363 = .ok (.iload_n 3, 1) := by decide +kernel
theorem dLA_law_364 : decode cLA_law 364 = .ok (.iconst 1, 1) := by decide +kernel
theorem dLA_law_365 : decode cLA_law 365 = .ok (.iadd, 1) := by decide +kernel
theorem dLA_law_366 : decode cLA_law 366 = .ok (.iaload, 1) := by decide +kernel
theorem dLA_law_367 : decode cLA_law 367 = .ok (.invokevirtual 54, 3) := by decide +kernel
theorem dLA_law_370 : decode cLA_law 370 = .ok (.aload_n 2, 1) := by decide +kernel
theorem dLA_law_371 : decode cLA_law 371 = .ok (.aload_n 0, 1) := by decide +kernel
theorem dLA_law_372 : decode cLA_law 372 = .ok (.iload_n 3, 1) := by decide +kernel
theorem dLA_law_373 : decode cLA_law 373 = .ok (.iconst 1, 1) := by decide +kernel
theorem dLA_law_374 : decode cLA_law 374 = .ok (.iadd, 1) := by decide +kernel
theorem dLA_law_375 : decode cLA_law 375 = .ok (.iaload, 1) := by decide +kernel
theorem dLA_law_376 : decode cLA_law 376 = .ok (.invokevirtual 57, 3) := by decide +kernel
theorem dLA_law_379 : decode cLA_law 379 = .ok (.if_icmp .eq 203, 3) := by decide +kernel
theorem dLA_law_382 : decode cLA_law 382 = .ok (.iconst 0, 1) := by decide +kernel
theorem dLA_law_383 : decode cLA_law 383 = .ok (.ireturn, 1) := by decide +kernel
theorem dLA_law_384 : decode cLA_law 384 = .ok (.aload_n 1, 1) := by decide +kernel
theorem dLA_law_385 : decode cLA_law 385 = .ok (.invokevirtual 58, 3) := by decide +kernel
theorem dLA_law_388 : decode cLA_law 388 = .ok (.aload_n 2, 1) := by decide +kernel
theorem dLA_law_389 : decode cLA_law 389 = .ok (.invokevirtual 62, 3) := by decide +kernel
theorem dLA_law_392 : decode cLA_law 392 = .ok (.lcmp, 1) := by decide +kernel
theorem dLA_law_393 : decode cLA_law 393 = .ok (.ifCond .eq 189, 3) := by decide +kernel
theorem dLA_law_396 : decode cLA_law 396 = .ok (.iconst 0, 1) := by decide +kernel
theorem dLA_law_397 : decode cLA_law 397 = .ok (.ireturn, 1) := by decide +kernel
theorem dLA_law_398 : decode cLA_law 398 = .ok (.aload_n 1, 1) := by decide +kernel
theorem dLA_law_399 : decode cLA_law 399 = .ok (.aload_n 0, 1) := by decide +kernel
theorem dLA_law_400 : decode cLA_law 400 = .ok (.iload_n 3, 1) := by decide +kernel
theorem dLA_law_401 : decode cLA_law 401 = .ok (.iconst 1, 1) := by decide +kernel
theorem dLA_law_402 : decode cLA_law 402 = .ok (.iadd, 1) := by decide +kernel
theorem dLA_law_403 : decode cLA_law 403 = .ok (.iaload, 1) := by decide +kernel
theorem dLA_law_404 : decode cLA_law 404 = .ok (.aload_n 0, 1) := by decide +kernel
theorem dLA_law_405 : decode cLA_law 405 = .ok (.iload_n 3, 1) := by decide +kernel
theorem dLA_law_406 : decode cLA_law 406 = .ok (.iconst 2, 1) := by decide +kernel
theorem dLA_law_407 : decode cLA_law 407 = .ok (.iadd, 1) := by decide +kernel
theorem dLA_law_408 : decode cLA_law 408 = .ok (.iaload, 1) := by decide +kernel
theorem dLA_law_409 : decode cLA_law 409 = .ok (.invokevirtual 63, 3) := by decide +kernel
theorem dLA_law_412 : decode cLA_law 412 = .ok (.aload_n 2, 1) := by decide +kernel
theorem dLA_law_413 : decode cLA_law 413 = .ok (.aload_n 0, 1) := by decide +kernel
theorem dLA_law_414 : decode cLA_law 414 = .ok (.iload_n 3, 1) := by decide +kernel
theorem dLA_law_415 : decode cLA_law 415 = .ok (.iconst 1, 1) := by decide +kernel
theorem dLA_law_416 : decode cLA_law 416 = .ok (.iadd, 1) := by decide +kernel
theorem dLA_law_417 : decode cLA_law 417 = .ok (.iaload, 1) := by decide +kernel
theorem dLA_law_418 : decode cLA_law 418 = .ok (.aload_n 0, 1) := by decide +kernel
theorem dLA_law_419 : decode cLA_law 419 = .ok (.iload_n 3, 1) := by decide +kernel
theorem dLA_law_420 : decode cLA_law 420 = .ok (.iconst 2, 1) := by decide +kernel
theorem dLA_law_421 : decode cLA_law 421 = .ok (.iadd, 1) := by decide +kernel
theorem dLA_law_422 : decode cLA_law 422 = .ok (.iaload, 1) := by decide +kernel
theorem dLA_law_423 : decode cLA_law 423 = .ok (.invokevirtual 67, 3) := by decide +kernel
theorem dLA_law_426 : decode cLA_law 426 = .ok (.if_icmp .eq 156, 3) := by decide +kernel
theorem dLA_law_429 : decode cLA_law 429 = .ok (.iconst 0, 1) := by decide +kernel
theorem dLA_law_430 : decode cLA_law 430 = .ok (.ireturn, 1) := by decide +kernel
theorem dLA_law_431 : decode cLA_law 431 = .ok (.aload_n 1, 1) := by decide +kernel
theorem dLA_law_432 : decode cLA_law 432 = .ok (.aload_n 0, 1) := by decide +kernel
theorem dLA_law_433 : decode cLA_law 433 = .ok (.iload_n 3, 1) := by decide +kernel
theorem dLA_law_434 : decode cLA_law 434 = .ok (.iconst 1, 1) := by decide +kernel
theorem dLA_law_435 : decode cLA_law 435 = .ok (.iadd, 1) := by decide +kernel
theorem dLA_law_436 : decode cLA_law 436 = .ok (.iaload, 1) := by decide +kernel
theorem dLA_law_437 : decode cLA_law 437 = .ok (.invokevirtual 68, 3) := by decide +kernel
theorem dLA_law_440 : decode cLA_law 440 = .ok (.aload_n 2, 1) := by decide +kernel
theorem dLA_law_441 : decode cLA_law 441 = .ok (.aload_n 0, 1) := by decide +kernel
theorem dLA_law_442 : decode cLA_law 442 = .ok (.iload_n 3, 1) := by decide +kernel
theorem dLA_law_443 : decode cLA_law 443 = .ok (.iconst 1, 1) := by decide +kernel
theorem dLA_law_444 : decode cLA_law 444 = .ok (.iadd, 1) := by decide +kernel
theorem dLA_law_445 : decode cLA_law 445 = .ok (.iaload, 1) := by decide +kernel
theorem dLA_law_446 : decode cLA_law 446 = .ok (.invokevirtual 71, 3) := by decide +kernel
theorem dLA_law_449 : decode cLA_law 449 = .ok (.if_icmp .eq 133, 3) := by decide +kernel
theorem dLA_law_452 : decode cLA_law 452 = .ok (.iconst 0, 1) := by decide +kernel
theorem dLA_law_453 : decode cLA_law 453 = .ok (.ireturn, 1) := by decide +kernel
theorem dLA_law_454 : decode cLA_law 454 = .ok (.aload_n 1, 1) := by decide +kernel
theorem dLA_law_455 : decode cLA_law 455 = .ok (.aload_n 0, 1) := by decide +kernel
theorem dLA_law_456 : decode cLA_law 456 = .ok (.iload_n 3, 1) := by decide +kernel
theorem dLA_law_457 : decode cLA_law 457 = .ok (.iconst 1, 1) := by decide +kernel
theorem dLA_law_458 : decode cLA_law 458 = .ok (.iadd, 1) := by decide +kernel
theorem dLA_law_459 : decode cLA_law 459 = .ok (.iaload, 1) := by decide +kernel
theorem dLA_law_460 : decode cLA_law 460 = .ok (.invokevirtual 72, 3) := by decide +kernel
theorem dLA_law_463 : decode cLA_law 463 = .ok (.aload_n 2, 1) := by decide +kernel
theorem dLA_law_464 : decode cLA_law 464 = .ok (.aload_n 0, 1) := by decide +kernel
theorem dLA_law_465 : decode cLA_law 465 = .ok (.iload_n 3, 1) := by decide +kernel
theorem dLA_law_466 : decode cLA_law 466 = .ok (.iconst 1, 1) := by decide +kernel
theorem dLA_law_467 : decode cLA_law 467 = .ok (.iadd, 1) := by decide +kernel
theorem dLA_law_468 : decode cLA_law 468 = .ok (.iaload, 1) := by decide +kernel
theorem dLA_law_469 : decode cLA_law 469 = .ok (.invokevirtual 75, 3) := by decide +kernel
theorem dLA_law_472 : decode cLA_law 472 = .ok (.if_icmp .eq 110, 3) := by decide +kernel
theorem dLA_law_475 : decode cLA_law 475 = .ok (.iconst 0, 1) := by decide +kernel
theorem dLA_law_476 : decode cLA_law 476 = .ok (.ireturn, 1) := by decide +kernel
theorem dLA_law_477 : decode cLA_law 477 = .ok (.aload_n 1, 1) := by decide +kernel
theorem dLA_law_478 : decode cLA_law 478 = .ok (.invokevirtual 76, 3) := by decide +kernel
theorem dLA_law_481 : decode cLA_law 481 = .ok (.aload_n 2, 1) := by decide +kernel
theorem dLA_law_482 : decode cLA_law 482 = .ok (.invokevirtual 79, 3) := by decide +kernel
theorem dLA_law_485 : decode cLA_law 485 = .ok (.if_icmp .eq 97, 3) := by decide +kernel
theorem dLA_law_488 : decode cLA_law 488 = .ok (.iconst 0, 1) := by decide +kernel
theorem dLA_law_489 : decode cLA_law 489 = .ok (.ireturn, 1) := by decide +kernel
theorem dLA_law_490 : decode cLA_law 490 = .ok (.aload_n 1, 1) := by decide +kernel
theorem dLA_law_491 : decode cLA_law 491 = .ok (.aload_n 0, 1) := by decide +kernel
theorem dLA_law_492 : decode cLA_law 492 = .ok (.iload_n 3, 1) := by decide +kernel
theorem dLA_law_493 : decode cLA_law 493 = .ok (.iconst 1, 1) := by decide +kernel
theorem dLA_law_494 : decode cLA_law 494 = .ok (.iadd, 1) := by decide +kernel
theorem dLA_law_495 : decode cLA_law 495 = .ok (.iaload, 1) := by decide +kernel
theorem dLA_law_496 : decode cLA_law 496 = .ok (.aload_n 0, 1) := by decide +kernel
theorem dLA_law_497 : decode cLA_law 497 = .ok (.iload_n 3, 1) := by decide +kernel
theorem dLA_law_498 : decode cLA_law 498 = .ok (.iconst 2, 1) := by decide +kernel
theorem dLA_law_499 : decode cLA_law 499 = .ok (.iadd, 1) := by decide +kernel
theorem dLA_law_500 : decode cLA_law 500 = .ok (.iaload, 1) := by decide +kernel
theorem dLA_law_501 : decode cLA_law 501 = .ok (.invokevirtual 80, 3) := by decide +kernel
theorem dLA_law_504 : decode cLA_law 504 = .ok (.aload_n 2, 1) := by decide +kernel
theorem dLA_law_505 : decode cLA_law 505 = .ok (.aload_n 0, 1) := by decide +kernel
theorem dLA_law_506 : decode cLA_law 506 = .ok (.iload_n 3, 1) := by decide +kernel
theorem dLA_law_507 : decode cLA_law 507 = .ok (.iconst 1, 1) := by decide +kernel
theorem dLA_law_508 : decode cLA_law 508 = .ok (.iadd, 1) := by decide +kernel
theorem dLA_law_509 : decode cLA_law 509 = .ok (.iaload, 1) := by decide +kernel
theorem dLA_law_510 : decode cLA_law 510 = .ok (.aload_n 0, 1) := by decide +kernel
theorem dLA_law_511 : decode cLA_law 511 = .ok (.iload_n 3, 1) := by decide +kernel
theorem dLA_law_512 : decode cLA_law 512 = .ok (.iconst 2, 1) := by decide +kernel
theorem dLA_law_513 : decode cLA_law 513 = .ok (.iadd, 1) := by decide +kernel
theorem dLA_law_514 : decode cLA_law 514 = .ok (.iaload, 1) := by decide +kernel
theorem dLA_law_515 : decode cLA_law 515 = .ok (.invokevirtual 83, 3) := by decide +kernel
theorem dLA_law_518 : decode cLA_law 518 = .ok (.if_icmp .eq 64, 3) := by decide +kernel
theorem dLA_law_521 : decode cLA_law 521 = .ok (.iconst 0, 1) := by decide +kernel
theorem dLA_law_522 : decode cLA_law 522 = .ok (.ireturn, 1) := by decide +kernel
theorem dLA_law_523 : decode cLA_law 523 = .ok (.aload_n 1, 1) := by decide +kernel
theorem dLA_law_524 : decode cLA_law 524 = .ok (.invokevirtual 84, 3) := by decide +kernel
theorem dLA_law_527 : decode cLA_law 527 = .ok (.aload_n 2, 1) := by decide +kernel
theorem dLA_law_528 : decode cLA_law 528 = .ok (.invokevirtual 87, 3) := by decide +kernel
theorem dLA_law_531 : decode cLA_law 531 = .ok (.if_icmp .eq 51, 3) := by decide +kernel
theorem dLA_law_534 : decode cLA_law 534 = .ok (.iconst 0, 1) := by decide +kernel
theorem dLA_law_535 : decode cLA_law 535 = .ok (.ireturn, 1) := by decide +kernel
theorem dLA_law_536 : decode cLA_law 536 = .ok (.aload_n 1, 1) := by decide +kernel
theorem dLA_law_537 : decode cLA_law 537 = .ok (.aload_n 0, 1) := by decide +kernel
theorem dLA_law_538 : decode cLA_law 538 = .ok (.iload_n 3, 1) := by decide +kernel
theorem dLA_law_539 : decode cLA_law 539 = .ok (.iconst 1, 1) := by decide +kernel
theorem dLA_law_540 : decode cLA_law 540 = .ok (.iadd, 1) := by decide +kernel
theorem dLA_law_541 : decode cLA_law 541 = .ok (.iaload, 1) := by decide +kernel
theorem dLA_law_542 : decode cLA_law 542 = .ok (.aload_n 0, 1) := by decide +kernel
theorem dLA_law_543 : decode cLA_law 543 = .ok (.iload_n 3, 1) := by decide +kernel
theorem dLA_law_544 : decode cLA_law 544 = .ok (.iconst 2, 1) := by decide +kernel
theorem dLA_law_545 : decode cLA_law 545 = .ok (.iadd, 1) := by decide +kernel
theorem dLA_law_546 : decode cLA_law 546 = .ok (.iaload, 1) := by decide +kernel
theorem dLA_law_547 : decode cLA_law 547 = .ok (.invokevirtual 88, 3) := by decide +kernel
theorem dLA_law_550 : decode cLA_law 550 = .ok (.aload_n 2, 1) := by decide +kernel
theorem dLA_law_551 : decode cLA_law 551 = .ok (.aload_n 0, 1) := by decide +kernel
theorem dLA_law_552 : decode cLA_law 552 = .ok (.iload_n 3, 1) := by decide +kernel
theorem dLA_law_553 : decode cLA_law 553 = .ok (.iconst 1, 1) := by decide +kernel
theorem dLA_law_554 : decode cLA_law 554 = .ok (.iadd, 1) := by decide +kernel
theorem dLA_law_555 : decode cLA_law 555 = .ok (.iaload, 1) := by decide +kernel
theorem dLA_law_556 : decode cLA_law 556 = .ok (.aload_n 0, 1) := by decide +kernel
theorem dLA_law_557 : decode cLA_law 557 = .ok (.iload_n 3, 1) := by decide +kernel
theorem dLA_law_558 : decode cLA_law 558 = .ok (.iconst 2, 1) := by decide +kernel
theorem dLA_law_559 : decode cLA_law 559 = .ok (.iadd, 1) := by decide +kernel
theorem dLA_law_560 : decode cLA_law 560 = .ok (.iaload, 1) := by decide +kernel
theorem dLA_law_561 : decode cLA_law 561 = .ok (.invokevirtual 91, 3) := by decide +kernel
theorem dLA_law_564 : decode cLA_law 564 = .ok (.if_icmp .eq 18, 3) := by decide +kernel
theorem dLA_law_567 : decode cLA_law 567 = .ok (.iconst 0, 1) := by decide +kernel
theorem dLA_law_568 : decode cLA_law 568 = .ok (.ireturn, 1) := by decide +kernel
theorem dLA_law_569 : decode cLA_law 569 = .ok (.aload_n 1, 1) := by decide +kernel
theorem dLA_law_570 : decode cLA_law 570 = .ok (.invokevirtual 92, 3) := by decide +kernel
theorem dLA_law_573 : decode cLA_law 573 = .ok (.aload_n 2, 1) := by decide +kernel
theorem dLA_law_574 : decode cLA_law 574 = .ok (.invokevirtual 95, 3) := by decide +kernel
theorem dLA_law_577 : decode cLA_law 577 = .ok (.if_icmp .eq 5, 3) := by decide +kernel
theorem dLA_law_580 : decode cLA_law 580 = .ok (.iconst 0, 1) := by decide +kernel
theorem dLA_law_581 : decode cLA_law 581 = .ok (.ireturn, 1) := by decide +kernel
theorem dLA_law_582 : decode cLA_law 582 = .ok (.iinc 3 4, 3) := by decide +kernel
theorem dLA_law_585 : decode cLA_law 585 = .ok (.goto (-567), 3) := by decide +kernel
theorem dLA_law_588 : decode cLA_law 588 = .ok (.iconst 1, 1) := by decide +kernel
theorem dLA_law_589 : decode cLA_law 589 = .ok (.ireturn, 1) := by decide +kernel
