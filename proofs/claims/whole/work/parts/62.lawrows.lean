theorem lw_arg (x : Int32) : x < 0 ∨ ∃ a : Nat, a < 2 ^ 31 ∧ x = nI a := by
  by_cases h : x < 0
  · exact Or.inl h
  · exact Or.inr (nI_of h)
theorem d_Lw_law_0 : decode code 0 = .ok (.new 7, 3) := by decide +kernel
theorem d_Lw_law_3 : decode code 3 = .ok (.dup, 1) := by decide +kernel
theorem d_Lw_law_4 : decode code 4 = .ok (.invokespecial 9, 3) := by decide +kernel
theorem d_Lw_law_7 : decode code 7 = .ok (.astore_n 1, 1) := by decide +kernel
theorem d_Lw_law_8 : decode code 8 = .ok (.new 10, 3) := by decide +kernel
theorem d_Lw_law_11 : decode code 11 = .ok (.dup, 1) := by decide +kernel
theorem d_Lw_law_12 : decode code 12 = .ok (.invokespecial 12, 3) := by decide +kernel
theorem d_Lw_law_15 : decode code 15 = .ok (.astore_n 2, 1) := by decide +kernel
theorem d_Lw_law_16 : decode code 16 = .ok (.iconst 0, 1) := by decide +kernel
theorem d_Lw_law_17 : decode code 17 = .ok (.istore_n 3, 1) := by decide +kernel
theorem d_Lw_law_18 : decode code 18 = .ok (.iload_n 3, 1) := by decide +kernel
theorem d_Lw_law_19 : decode code 19 = .ok (.aload_n 0, 1) := by decide +kernel
theorem d_Lw_law_20 : decode code 20 = .ok (.arraylength, 1) := by decide +kernel
theorem d_Lw_law_21 : decode code 21 = .ok (.iconst 3, 1) := by decide +kernel
theorem d_Lw_law_22 : decode code 22 = .ok (.isub, 1) := by decide +kernel
theorem d_Lw_law_23 : decode code 23 = .ok (.if_icmp .gt 590, 3) := by decide +kernel
theorem d_Lw_law_26 : decode code 26 = .ok (.aload_n 0, 1) := by decide +kernel
theorem d_Lw_law_27 : decode code 27 = .ok (.iload_n 3, 1) := by decide +kernel
theorem d_Lw_law_28 : decode code 28 = .ok (.iaload, 1) := by decide +kernel
theorem d_Lw_law_29 : decode code 29 = .ok (.bipush 31, 2) := by decide +kernel
theorem d_Lw_law_31 : decode code 31 = .ok (.iand, 1) := by decide +kernel
theorem d_Lw_law_32 : decode code 32 = .ok (.tableswitch 575 0 18 #[92, 105, 128, 139, 162, 195, 228, 241, 274, 307, 318, 341, 374, 407, 440, 463, 486, 509, 562], 92) := by decide +kernel
theorem d_Lw_law_124 : decode code 124 = .ok (.aload_n 1, 1) := by decide +kernel
theorem d_Lw_law_125 : decode code 125 = .ok (.invokevirtual 13, 3) := by decide +kernel
theorem d_Lw_law_128 : decode code 128 = .ok (.aload_n 2, 1) := by decide +kernel
theorem d_Lw_law_129 : decode code 129 = .ok (.invokevirtual 17, 3) := by decide +kernel
theorem d_Lw_law_132 : decode code 132 = .ok (.if_icmp .eq 475, 3) := by decide +kernel
theorem d_Lw_law_135 : decode code 135 = .ok (.iconst 0, 1) := by decide +kernel
theorem d_Lw_law_136 : decode code 136 = .ok (.ireturn, 1) := by decide +kernel
theorem d_Lw_law_137 : decode code 137 = .ok (.aload_n 1, 1) := by decide +kernel
theorem d_Lw_law_138 : decode code 138 = .ok (.aload_n 0, 1) := by decide +kernel
theorem d_Lw_law_139 : decode code 139 = .ok (.iload_n 3, 1) := by decide +kernel
theorem d_Lw_law_140 : decode code 140 = .ok (.iconst 1, 1) := by decide +kernel
theorem d_Lw_law_141 : decode code 141 = .ok (.iadd, 1) := by decide +kernel
theorem d_Lw_law_142 : decode code 142 = .ok (.iaload, 1) := by decide +kernel
theorem d_Lw_law_143 : decode code 143 = .ok (.invokevirtual 18, 3) := by decide +kernel
theorem d_Lw_law_146 : decode code 146 = .ok (.aload_n 2, 1) := by decide +kernel
theorem d_Lw_law_147 : decode code 147 = .ok (.aload_n 0, 1) := by decide +kernel
theorem d_Lw_law_148 : decode code 148 = .ok (.iload_n 3, 1) := by decide +kernel
theorem d_Lw_law_149 : decode code 149 = .ok (.iconst 1, 1) := by decide +kernel
theorem d_Lw_law_150 : decode code 150 = .ok (.iadd, 1) := by decide +kernel
theorem d_Lw_law_151 : decode code 151 = .ok (.iaload, 1) := by decide +kernel
theorem d_Lw_law_152 : decode code 152 = .ok (.invokevirtual 22, 3) := by decide +kernel
theorem d_Lw_law_155 : decode code 155 = .ok (.if_icmp .eq 452, 3) := by decide +kernel
theorem d_Lw_law_158 : decode code 158 = .ok (.iconst 0, 1) := by decide +kernel
theorem d_Lw_law_159 : decode code 159 = .ok (.ireturn, 1) := by decide +kernel
theorem d_Lw_law_160 : decode code 160 = .ok (.aload_n 1, 1) := by decide +kernel
theorem d_Lw_law_161 : decode code 161 = .ok (.invokevirtual 23, 3) := by decide +kernel
theorem d_Lw_law_164 : decode code 164 = .ok (.aload_n 2, 1) := by decide +kernel
theorem d_Lw_law_165 : decode code 165 = .ok (.invokevirtual 26, 3) := by decide +kernel
theorem d_Lw_law_168 : decode code 168 = .ok (.goto 439, 3) := by decide +kernel
theorem d_Lw_law_171 : decode code 171 = .ok (.aload_n 1, 1) := by decide +kernel
theorem d_Lw_law_172 : decode code 172 = .ok (.aload_n 0, 1) := by decide +kernel
theorem d_Lw_law_173 : decode code 173 = .ok (.iload_n 3, 1) := by decide +kernel
theorem d_Lw_law_174 : decode code 174 = .ok (.iconst 1, 1) := by decide +kernel
theorem d_Lw_law_175 : decode code 175 = .ok (.iadd, 1) := by decide +kernel
theorem d_Lw_law_176 : decode code 176 = .ok (.iaload, 1) := by decide +kernel
theorem d_Lw_law_177 : decode code 177 = .ok (.invokevirtual 27, 3) := by decide +kernel
theorem d_Lw_law_180 : decode code 180 = .ok (.aload_n 2, 1) := by decide +kernel
theorem d_Lw_law_181 : decode code 181 = .ok (.aload_n 0, 1) := by decide +kernel
theorem d_Lw_law_182 : decode code 182 = .ok (.iload_n 3, 1) := by decide +kernel
theorem d_Lw_law_183 : decode code 183 = .ok (.iconst 1, 1) := by decide +kernel
theorem d_Lw_law_184 : decode code 184 = .ok (.iadd, 1) := by decide +kernel
theorem d_Lw_law_185 : decode code 185 = .ok (.iaload, 1) := by decide +kernel
theorem d_Lw_law_186 : decode code 186 = .ok (.invokevirtual 31, 3) := by decide +kernel
theorem d_Lw_law_189 : decode code 189 = .ok (.if_icmp .eq 418, 3) := by decide +kernel
theorem d_Lw_law_192 : decode code 192 = .ok (.iconst 0, 1) := by decide +kernel
theorem d_Lw_law_193 : decode code 193 = .ok (.ireturn, 1) := by decide +kernel
theorem d_Lw_law_194 : decode code 194 = .ok (.aload_n 1, 1) := by decide +kernel
theorem d_Lw_law_195 : decode code 195 = .ok (.aload_n 0, 1) := by decide +kernel
theorem d_Lw_law_196 : decode code 196 = .ok (.iload_n 3, 1) := by decide +kernel
theorem d_Lw_law_197 : decode code 197 = .ok (.iconst 1, 1) := by decide +kernel
theorem d_Lw_law_198 : decode code 198 = .ok (.iadd, 1) := by decide +kernel
theorem d_Lw_law_199 : decode code 199 = .ok (.iaload, 1) := by decide +kernel
theorem d_Lw_law_200 : decode code 200 = .ok (.aload_n 0, 1) := by decide +kernel
theorem d_Lw_law_201 : decode code 201 = .ok (.iload_n 3, 1) := by decide +kernel
theorem d_Lw_law_202 : decode code 202 = .ok (.iconst 2, 1) := by decide +kernel
theorem d_Lw_law_203 : decode code 203 = .ok (.iadd, 1) := by decide +kernel
theorem d_Lw_law_204 : decode code 204 = .ok (.iaload, 1) := by decide +kernel
theorem d_Lw_law_205 : decode code 205 = .ok (.invokevirtual 32, 3) := by decide +kernel
theorem d_Lw_law_208 : decode code 208 = .ok (.aload_n 2, 1) := by decide +kernel
theorem d_Lw_law_209 : decode code 209 = .ok (.aload_n 0, 1) := by decide +kernel
theorem d_Lw_law_210 : decode code 210 = .ok (.iload_n 3, 1) := by decide +kernel
theorem d_Lw_law_211 : decode code 211 = .ok (.iconst 1, 1) := by decide +kernel
theorem d_Lw_law_212 : decode code 212 = .ok (.iadd, 1) := by decide +kernel
theorem d_Lw_law_213 : decode code 213 = .ok (.iaload, 1) := by decide +kernel
theorem d_Lw_law_214 : decode code 214 = .ok (.aload_n 0, 1) := by decide +kernel
theorem d_Lw_law_215 : decode code 215 = .ok (.iload_n 3, 1) := by decide +kernel
theorem d_Lw_law_216 : decode code 216 = .ok (.iconst 2, 1) := by decide +kernel
theorem d_Lw_law_217 : decode code 217 = .ok (.iadd, 1) := by decide +kernel
theorem d_Lw_law_218 : decode code 218 = .ok (.iaload, 1) := by decide +kernel
theorem d_Lw_law_219 : decode code 219 = .ok (.invokevirtual 36, 3) := by decide +kernel
theorem d_Lw_law_222 : decode code 222 = .ok (.if_icmp .eq 385, 3) := by decide +kernel
theorem d_Lw_law_225 : decode code 225 = .ok (.iconst 0, 1) := by decide +kernel
theorem d_Lw_law_226 : decode code 226 = .ok (.ireturn, 1) := by decide +kernel
theorem d_Lw_law_227 : decode code 227 = .ok (.aload_n 1, 1) := by decide +kernel
theorem d_Lw_law_228 : decode code 228 = .ok (.aload_n 0, 1) := by decide +kernel
theorem d_Lw_law_229 : decode code 229 = .ok (.iload_n 3, 1) := by decide +kernel
theorem d_Lw_law_230 : decode code 230 = .ok (.iconst 1, 1) := by decide +kernel
theorem d_Lw_law_231 : decode code 231 = .ok (.iadd, 1) := by decide +kernel
theorem d_Lw_law_232 : decode code 232 = .ok (.iaload, 1) := by decide +kernel
theorem d_Lw_law_233 : decode code 233 = .ok (.aload_n 0, 1) := by decide +kernel
theorem d_Lw_law_234 : decode code 234 = .ok (.iload_n 3, 1) := by decide +kernel
theorem d_Lw_law_235 : decode code 235 = .ok (.iconst 2, 1) := by decide +kernel
theorem d_Lw_law_236 : decode code 236 = .ok (.iadd, 1) := by decide +kernel
theorem d_Lw_law_237 : decode code 237 = .ok (.iaload, 1) := by decide +kernel
theorem d_Lw_law_238 : decode code 238 = .ok (.invokevirtual 37, 3) := by decide +kernel
theorem d_Lw_law_241 : decode code 241 = .ok (.aload_n 2, 1) := by decide +kernel
theorem d_Lw_law_242 : decode code 242 = .ok (.aload_n 0, 1) := by decide +kernel
theorem d_Lw_law_243 : decode code 243 = .ok (.iload_n 3, 1) := by decide +kernel
theorem d_Lw_law_244 : decode code 244 = .ok (.iconst 1, 1) := by decide +kernel
theorem d_Lw_law_245 : decode code 245 = .ok (.iadd, 1) := by decide +kernel
theorem d_Lw_law_246 : decode code 246 = .ok (.iaload, 1) := by decide +kernel
theorem d_Lw_law_247 : decode code 247 = .ok (.aload_n 0, 1) := by decide +kernel
theorem d_Lw_law_248 : decode code 248 = .ok (.iload_n 3, 1) := by decide +kernel
theorem d_Lw_law_249 : decode code 249 = .ok (.iconst 2, 1) := by decide +kernel
theorem d_Lw_law_250 : decode code 250 = .ok (.iadd, 1) := by decide +kernel
theorem d_Lw_law_251 : decode code 251 = .ok (.iaload, 1) := by decide +kernel
theorem d_Lw_law_252 : decode code 252 = .ok (.invokevirtual 40, 3) := by decide +kernel
theorem d_Lw_law_255 : decode code 255 = .ok (.if_icmp .eq 352, 3) := by decide +kernel
theorem d_Lw_law_258 : decode code 258 = .ok (.iconst 0, 1) := by decide +kernel
theorem d_Lw_law_259 : decode code 259 = .ok (.ireturn, 1) := by decide +kernel
theorem d_Lw_law_260 : decode code 260 = .ok (.aload_n 1, 1) := by decide +kernel
theorem d_Lw_law_261 : decode code 261 = .ok (.invokevirtual 41, 3) := by decide +kernel
theorem d_Lw_law_264 : decode code 264 = .ok (.aload_n 2, 1) := by decide +kernel
theorem d_Lw_law_265 : decode code 265 = .ok (.invokevirtual 44, 3) := by decide +kernel
theorem d_Lw_law_268 : decode code 268 = .ok (.if_icmp .eq 339, 3) := by decide +kernel
theorem d_Lw_law_271 : decode code 271 = .ok (.iconst 0, 1) := by decide +kernel
theorem d_Lw_law_272 : decode code 272 = .ok (.ireturn, 1) := by decide +kernel
theorem d_Lw_law_273 : decode code 273 = .ok (.aload_n 1, 1) := by decide +kernel
theorem d_Lw_law_274 : decode code 274 = .ok (.aload_n 0, 1) := by decide +kernel
theorem d_Lw_law_275 : decode code 275 = .ok (.iload_n 3, 1) := by decide +kernel
theorem d_Lw_law_276 : decode code 276 = .ok (.iconst 1, 1) := by decide +kernel
theorem d_Lw_law_277 : decode code 277 = .ok (.iadd, 1) := by decide +kernel
theorem d_Lw_law_278 : decode code 278 = .ok (.iaload, 1) := by decide +kernel
theorem d_Lw_law_279 : decode code 279 = .ok (.aload_n 0, 1) := by decide +kernel
theorem d_Lw_law_280 : decode code 280 = .ok (.iload_n 3, 1) := by decide +kernel
theorem d_Lw_law_281 : decode code 281 = .ok (.iconst 2, 1) := by decide +kernel
theorem d_Lw_law_282 : decode code 282 = .ok (.iadd, 1) := by decide +kernel
theorem d_Lw_law_283 : decode code 283 = .ok (.iaload, 1) := by decide +kernel
theorem d_Lw_law_284 : decode code 284 = .ok (.invokevirtual 45, 3) := by decide +kernel
theorem d_Lw_law_287 : decode code 287 = .ok (.aload_n 2, 1) := by decide +kernel
theorem d_Lw_law_288 : decode code 288 = .ok (.aload_n 0, 1) := by decide +kernel
theorem d_Lw_law_289 : decode code 289 = .ok (.iload_n 3, 1) := by decide +kernel
theorem d_Lw_law_290 : decode code 290 = .ok (.iconst 1, 1) := by decide +kernel
theorem d_Lw_law_291 : decode code 291 = .ok (.iadd, 1) := by decide +kernel
theorem d_Lw_law_292 : decode code 292 = .ok (.iaload, 1) := by decide +kernel
theorem d_Lw_law_293 : decode code 293 = .ok (.aload_n 0, 1) := by decide +kernel
theorem d_Lw_law_294 : decode code 294 = .ok (.iload_n 3, 1) := by decide +kernel
theorem d_Lw_law_295 : decode code 295 = .ok (.iconst 2, 1) := by decide +kernel
theorem d_Lw_law_296 : decode code 296 = .ok (.iadd, 1) := by decide +kernel
theorem d_Lw_law_297 : decode code 297 = .ok (.iaload, 1) := by decide +kernel
theorem d_Lw_law_298 : decode code 298 = .ok (.invokevirtual 48, 3) := by decide +kernel
theorem d_Lw_law_301 : decode code 301 = .ok (.if_icmp .eq 306, 3) := by decide +kernel
theorem d_Lw_law_304 : decode code 304 = .ok (.iconst 0, 1) := by decide +kernel
theorem d_Lw_law_305 : decode code 305 = .ok (.ireturn, 1) := by decide +kernel
theorem d_Lw_law_306 : decode code 306 = .ok (.aload_n 1, 1) := by decide +kernel
theorem d_Lw_law_307 : decode code 307 = .ok (.aload_n 0, 1) := by decide +kernel
theorem d_Lw_law_308 : decode code 308 = .ok (.iload_n 3, 1) := by decide +kernel
theorem d_Lw_law_309 : decode code 309 = .ok (.iconst 1, 1) := by decide +kernel
theorem d_Lw_law_310 : decode code 310 = .ok (.iadd, 1) := by decide +kernel
theorem d_Lw_law_311 : decode code 311 = .ok (.iaload, 1) := by decide +kernel
theorem d_Lw_law_312 : decode code 312 = .ok (.aload_n 0, 1) := by decide +kernel
theorem d_Lw_law_313 : decode code 313 = .ok (.iload_n 3, 1) := by decide +kernel
theorem d_Lw_law_314 : decode code 314 = .ok (.iconst 2, 1) := by decide +kernel
theorem d_Lw_law_315 : decode code 315 = .ok (.iadd, 1) := by decide +kernel
theorem d_Lw_law_316 : decode code 316 = .ok (.iaload, 1) := by decide +kernel
theorem d_Lw_law_317 : decode code 317 = .ok (.invokevirtual 49, 3) := by decide +kernel
theorem d_Lw_law_320 : decode code 320 = .ok (.aload_n 2, 1) := by decide +kernel
theorem d_Lw_law_321 : decode code 321 = .ok (.aload_n 0, 1) := by decide +kernel
theorem d_Lw_law_322 : decode code 322 = .ok (.iload_n 3, 1) := by decide +kernel
theorem d_Lw_law_323 : decode code 323 = .ok (.iconst 1, 1) := by decide +kernel
theorem d_Lw_law_324 : decode code 324 = .ok (.iadd, 1) := by decide +kernel
theorem d_Lw_law_325 : decode code 325 = .ok (.iaload, 1) := by decide +kernel
theorem d_Lw_law_326 : decode code 326 = .ok (.aload_n 0, 1) := by decide +kernel
theorem d_Lw_law_327 : decode code 327 = .ok (.iload_n 3, 1) := by decide +kernel
theorem d_Lw_law_328 : decode code 328 = .ok (.iconst 2, 1) := by decide +kernel
theorem d_Lw_law_329 : decode code 329 = .ok (.iadd, 1) := by decide +kernel
theorem d_Lw_law_330 : decode code 330 = .ok (.iaload, 1) := by decide +kernel
theorem d_Lw_law_331 : decode code 331 = .ok (.invokevirtual 53, 3) := by decide +kernel
theorem d_Lw_law_334 : decode code 334 = .ok (.if_icmp .eq 273, 3) := by decide +kernel
theorem d_Lw_law_337 : decode code 337 = .ok (.iconst 0, 1) := by decide +kernel
theorem d_Lw_law_338 : decode code 338 = .ok (.ireturn, 1) := by decide +kernel
theorem d_Lw_law_339 : decode code 339 = .ok (.aload_n 1, 1) := by decide +kernel
theorem d_Lw_law_340 : decode code 340 = .ok (.invokevirtual 54, 3) := by decide +kernel
theorem d_Lw_law_343 : decode code 343 = .ok (.aload_n 2, 1) := by decide +kernel
theorem d_Lw_law_344 : decode code 344 = .ok (.invokevirtual 57, 3) := by decide +kernel
theorem d_Lw_law_347 : decode code 347 = .ok (.goto 260, 3) := by decide +kernel
theorem d_Lw_law_350 : decode code 350 = .ok (.aload_n 1, 1) := by decide +kernel
theorem d_Lw_law_351 : decode code 351 = .ok (.aload_n 0, 1) := by decide +kernel
theorem d_Lw_law_352 : decode code 352 = .ok (.iload_n 3, 1) := by decide +kernel
theorem d_Lw_law_353 : decode code 353 = .ok (.iconst 1, 1) := by decide +kernel
theorem d_Lw_law_354 : decode code 354 = .ok (.iadd, 1) := by decide +kernel
theorem d_Lw_law_355 : decode code 355 = .ok (.iaload, 1) := by decide +kernel
theorem d_Lw_law_356 : decode code 356 = .ok (.invokevirtual 58, 3) := by decide +kernel
theorem d_Lw_law_359 : decode code 359 = .ok (.aload_n 2, 1) := by decide +kernel
theorem d_Lw_law_360 : decode code 360 = .ok (.aload_n 0, 1) := by decide +kernel
theorem d_Lw_law_361 : decode code 361 = .ok (.iload_n 3, 1) := by decide +kernel
theorem d_Lw_law_362 : decode code 362 = .ok (.iconst 1, 1) := by decide +kernel
theorem d_Lw_law_363 : decode code 363 = .ok (.iadd, 1) := by decide +kernel
theorem d_Lw_law_364 : decode code 364 = .ok (.iaload, 1) := by decide +kernel
theorem d_Lw_law_365 : decode code 365 = .ok (.invokevirtual 61, 3) := by decide +kernel
theorem d_Lw_law_368 : decode code 368 = .ok (.if_icmp .eq 239, 3) := by decide +kernel
theorem d_Lw_law_371 : decode code 371 = .ok (.iconst 0, 1) := by decide +kernel
theorem d_Lw_law_372 : decode code 372 = .ok (.ireturn, 1) := by decide +kernel
theorem d_Lw_law_373 : decode code 373 = .ok (.aload_n 1, 1) := by decide +kernel
theorem d_Lw_law_374 : decode code 374 = .ok (.aload_n 0, 1) := by decide +kernel
theorem d_Lw_law_375 : decode code 375 = .ok (.iload_n 3, 1) := by decide +kernel
theorem d_Lw_law_376 : decode code 376 = .ok (.iconst 1, 1) := by decide +kernel
theorem d_Lw_law_377 : decode code 377 = .ok (.iadd, 1) := by decide +kernel
theorem d_Lw_law_378 : decode code 378 = .ok (.iaload, 1) := by decide +kernel
theorem d_Lw_law_379 : decode code 379 = .ok (.aload_n 0, 1) := by decide +kernel
theorem d_Lw_law_380 : decode code 380 = .ok (.iload_n 3, 1) := by decide +kernel
theorem d_Lw_law_381 : decode code 381 = .ok (.iconst 2, 1) := by decide +kernel
theorem d_Lw_law_382 : decode code 382 = .ok (.iadd, 1) := by decide +kernel
theorem d_Lw_law_383 : decode code 383 = .ok (.iaload, 1) := by decide +kernel
theorem d_Lw_law_384 : decode code 384 = .ok (.invokevirtual 62, 3) := by decide +kernel
theorem d_Lw_law_387 : decode code 387 = .ok (.aload_n 2, 1) := by decide +kernel
theorem d_Lw_law_388 : decode code 388 = .ok (.aload_n 0, 1) := by decide +kernel
theorem d_Lw_law_389 : decode code 389 = .ok (.iload_n 3, 1) := by decide +kernel
theorem d_Lw_law_390 : decode code 390 = .ok (.iconst 1, 1) := by decide +kernel
theorem d_Lw_law_391 : decode code 391 = .ok (.iadd, 1) := by decide +kernel
theorem d_Lw_law_392 : decode code 392 = .ok (.iaload, 1) := by decide +kernel
theorem d_Lw_law_393 : decode code 393 = .ok (.aload_n 0, 1) := by decide +kernel
theorem d_Lw_law_394 : decode code 394 = .ok (.iload_n 3, 1) := by decide +kernel
theorem d_Lw_law_395 : decode code 395 = .ok (.iconst 2, 1) := by decide +kernel
theorem d_Lw_law_396 : decode code 396 = .ok (.iadd, 1) := by decide +kernel
theorem d_Lw_law_397 : decode code 397 = .ok (.iaload, 1) := by decide +kernel
theorem d_Lw_law_398 : decode code 398 = .ok (.invokevirtual 65, 3) := by decide +kernel
theorem d_Lw_law_401 : decode code 401 = .ok (.if_icmp .eq 206, 3) := by decide +kernel
theorem d_Lw_law_404 : decode code 404 = .ok (.iconst 0, 1) := by decide +kernel
theorem d_Lw_law_405 : decode code 405 = .ok (.ireturn, 1) := by decide +kernel
theorem d_Lw_law_406 : decode code 406 = .ok (.aload_n 1, 1) := by decide +kernel
theorem d_Lw_law_407 : decode code 407 = .ok (.aload_n 0, 1) := by decide +kernel
theorem d_Lw_law_408 : decode code 408 = .ok (.iload_n 3, 1) := by decide +kernel
theorem d_Lw_law_409 : decode code 409 = .ok (.iconst 1, 1) := by decide +kernel
theorem d_Lw_law_410 : decode code 410 = .ok (.iadd, 1) := by decide +kernel
theorem d_Lw_law_411 : decode code 411 = .ok (.iaload, 1) := by decide +kernel
theorem d_Lw_law_412 : decode code 412 = .ok (.aload_n 0, 1) := by decide +kernel
theorem d_Lw_law_413 : decode code 413 = .ok (.iload_n 3, 1) := by decide +kernel
theorem d_Lw_law_414 : decode code 414 = .ok (.iconst 2, 1) := by decide +kernel
theorem d_Lw_law_415 : decode code 415 = .ok (.iadd, 1) := by decide +kernel
theorem d_Lw_law_416 : decode code 416 = .ok (.iaload, 1) := by decide +kernel
theorem d_Lw_law_417 : decode code 417 = .ok (.invokevirtual 66, 3) := by decide +kernel
theorem d_Lw_law_420 : decode code 420 = .ok (.aload_n 2, 1) := by decide +kernel
theorem d_Lw_law_421 : decode code 421 = .ok (.aload_n 0, 1) := by decide +kernel
theorem d_Lw_law_422 : decode code 422 = .ok (.iload_n 3, 1) := by decide +kernel
theorem d_Lw_law_423 : decode code 423 = .ok (.iconst 1, 1) := by decide +kernel
theorem d_Lw_law_424 : decode code 424 = .ok (.iadd, 1) := by decide +kernel
theorem d_Lw_law_425 : decode code 425 = .ok (.iaload, 1) := by decide +kernel
theorem d_Lw_law_426 : decode code 426 = .ok (.aload_n 0, 1) := by decide +kernel
theorem d_Lw_law_427 : decode code 427 = .ok (.iload_n 3, 1) := by decide +kernel
theorem d_Lw_law_428 : decode code 428 = .ok (.iconst 2, 1) := by decide +kernel
theorem d_Lw_law_429 : decode code 429 = .ok (.iadd, 1) := by decide +kernel
theorem d_Lw_law_430 : decode code 430 = .ok (.iaload, 1) := by decide +kernel
theorem d_Lw_law_431 : decode code 431 = .ok (.invokevirtual 69, 3) := by decide +kernel
theorem d_Lw_law_434 : decode code 434 = .ok (.if_icmp .eq 173, 3) := by decide +kernel
theorem d_Lw_law_437 : decode code 437 = .ok (.iconst 0, 1) := by decide +kernel
theorem d_Lw_law_438 : decode code 438 = .ok (.ireturn, 1) := by decide +kernel
theorem d_Lw_law_439 : decode code 439 = .ok (.aload_n 1, 1) := by decide +kernel
theorem d_Lw_law_440 : decode code 440 = .ok (.aload_n 0, 1) := by decide +kernel
theorem d_Lw_law_441 : decode code 441 = .ok (.iload_n 3, 1) := by decide +kernel
theorem d_Lw_law_442 : decode code 442 = .ok (.iconst 1, 1) := by decide +kernel
theorem d_Lw_law_443 : decode code 443 = .ok (.iadd, 1) := by decide +kernel
theorem d_Lw_law_444 : decode code 444 = .ok (.iaload, 1) := by decide +kernel
theorem d_Lw_law_445 : decode code 445 = .ok (.aload_n 0, 1) := by decide +kernel
theorem d_Lw_law_446 : decode code 446 = .ok (.iload_n 3, 1) := by decide +kernel
theorem d_Lw_law_447 : decode code 447 = .ok (.iconst 2, 1) := by decide +kernel
theorem d_Lw_law_448 : decode code 448 = .ok (.iadd, 1) := by decide +kernel
theorem d_Lw_law_449 : decode code 449 = .ok (.iaload, 1) := by decide +kernel
theorem d_Lw_law_450 : decode code 450 = .ok (.invokevirtual 70, 3) := by decide +kernel
theorem d_Lw_law_453 : decode code 453 = .ok (.aload_n 2, 1) := by decide +kernel
theorem d_Lw_law_454 : decode code 454 = .ok (.aload_n 0, 1) := by decide +kernel
theorem d_Lw_law_455 : decode code 455 = .ok (.iload_n 3, 1) := by decide +kernel
theorem d_Lw_law_456 : decode code 456 = .ok (.iconst 1, 1) := by decide +kernel
theorem d_Lw_law_457 : decode code 457 = .ok (.iadd, 1) := by decide +kernel
theorem d_Lw_law_458 : decode code 458 = .ok (.iaload, 1) := by decide +kernel
theorem d_Lw_law_459 : decode code 459 = .ok (.aload_n 0, 1) := by decide +kernel
theorem d_Lw_law_460 : decode code 460 = .ok (.iload_n 3, 1) := by decide +kernel
theorem d_Lw_law_461 : decode code 461 = .ok (.iconst 2, 1) := by decide +kernel
theorem d_Lw_law_462 : decode code 462 = .ok (.iadd, 1) := by decide +kernel
theorem d_Lw_law_463 : decode code 463 = .ok (.iaload, 1) := by decide +kernel
theorem d_Lw_law_464 : decode code 464 = .ok (.invokevirtual 73, 3) := by decide +kernel
theorem d_Lw_law_467 : decode code 467 = .ok (.if_icmp .eq 140, 3) := by decide +kernel
theorem d_Lw_law_470 : decode code 470 = .ok (.iconst 0, 1) := by decide +kernel
theorem d_Lw_law_471 : decode code 471 = .ok (.ireturn, 1) := by decide +kernel
theorem d_Lw_law_472 : decode code 472 = .ok (.aload_n 1, 1) := by decide +kernel
theorem d_Lw_law_473 : decode code 473 = .ok (.aload_n 0, 1) := by decide +kernel
theorem d_Lw_law_474 : decode code 474 = .ok (.iload_n 3, 1) := by decide +kernel
theorem d_Lw_law_475 : decode code 475 = .ok (.iconst 1, 1) := by decide +kernel
theorem d_Lw_law_476 : decode code 476 = .ok (.iadd, 1) := by decide +kernel
theorem d_Lw_law_477 : decode code 477 = .ok (.iaload, 1) := by decide +kernel
theorem d_Lw_law_478 : decode code 478 = .ok (.invokevirtual 74, 3) := by decide +kernel
theorem d_Lw_law_481 : decode code 481 = .ok (.aload_n 2, 1) := by decide +kernel
theorem d_Lw_law_482 : decode code 482 = .ok (.aload_n 0, 1) := by decide +kernel
theorem d_Lw_law_483 : decode code 483 = .ok (.iload_n 3, 1) := by decide +kernel
theorem d_Lw_law_484 : decode code 484 = .ok (.iconst 1, 1) := by decide +kernel
theorem d_Lw_law_485 : decode code 485 = .ok (.iadd, 1) := by decide +kernel
theorem d_Lw_law_486 : decode code 486 = .ok (.iaload, 1) := by decide +kernel
theorem d_Lw_law_487 : decode code 487 = .ok (.invokevirtual 77, 3) := by decide +kernel
theorem d_Lw_law_490 : decode code 490 = .ok (.if_icmp .eq 117, 3) := by decide +kernel
theorem d_Lw_law_493 : decode code 493 = .ok (.iconst 0, 1) := by decide +kernel
theorem d_Lw_law_494 : decode code 494 = .ok (.ireturn, 1) := by decide +kernel
theorem d_Lw_law_495 : decode code 495 = .ok (.aload_n 1, 1) := by decide +kernel
theorem d_Lw_law_496 : decode code 496 = .ok (.aload_n 0, 1) := by decide +kernel
theorem d_Lw_law_497 : decode code 497 = .ok (.iload_n 3, 1) := by decide +kernel
theorem d_Lw_law_498 : decode code 498 = .ok (.iconst 1, 1) := by decide +kernel
theorem d_Lw_law_499 : decode code 499 = .ok (.iadd, 1) := by decide +kernel
theorem d_Lw_law_500 : decode code 500 = .ok (.iaload, 1) := by decide +kernel
theorem d_Lw_law_501 : decode code 501 = .ok (.invokevirtual 78, 3) := by decide +kernel
theorem d_Lw_law_504 : decode code 504 = .ok (.aload_n 2, 1) := by decide +kernel
theorem d_Lw_law_505 : decode code 505 = .ok (.aload_n 0, 1) := by decide +kernel
theorem d_Lw_law_506 : decode code 506 = .ok (.iload_n 3, 1) := by decide +kernel
theorem d_Lw_law_507 : decode code 507 = .ok (.iconst 1, 1) := by decide +kernel
theorem d_Lw_law_508 : decode code 508 = .ok (.iadd, 1) := by decide +kernel
theorem d_Lw_law_509 : decode code 509 = .ok (.iaload, 1) := by decide +kernel
theorem d_Lw_law_510 : decode code 510 = .ok (.invokevirtual 81, 3) := by decide +kernel
theorem d_Lw_law_513 : decode code 513 = .ok (.if_icmp .eq 94, 3) := by decide +kernel
theorem d_Lw_law_516 : decode code 516 = .ok (.iconst 0, 1) := by decide +kernel
theorem d_Lw_law_517 : decode code 517 = .ok (.ireturn, 1) := by decide +kernel
theorem d_Lw_law_518 : decode code 518 = .ok (.aload_n 1, 1) := by decide +kernel
theorem d_Lw_law_519 : decode code 519 = .ok (.aload_n 0, 1) := by decide +kernel
theorem d_Lw_law_520 : decode code 520 = .ok (.iload_n 3, 1) := by decide +kernel
theorem d_Lw_law_521 : decode code 521 = .ok (.iconst 1, 1) := by decide +kernel
theorem d_Lw_law_522 : decode code 522 = .ok (.iadd, 1) := by decide +kernel
theorem d_Lw_law_523 : decode code 523 = .ok (.iaload, 1) := by decide +kernel
theorem d_Lw_law_524 : decode code 524 = .ok (.invokevirtual 82, 3) := by decide +kernel
theorem d_Lw_law_527 : decode code 527 = .ok (.aload_n 2, 1) := by decide +kernel
theorem d_Lw_law_528 : decode code 528 = .ok (.aload_n 0, 1) := by decide +kernel
theorem d_Lw_law_529 : decode code 529 = .ok (.iload_n 3, 1) := by decide +kernel
theorem d_Lw_law_530 : decode code 530 = .ok (.iconst 1, 1) := by decide +kernel
theorem d_Lw_law_531 : decode code 531 = .ok (.iadd, 1) := by decide +kernel
theorem d_Lw_law_532 : decode code 532 = .ok (.iaload, 1) := by decide +kernel
theorem d_Lw_law_533 : decode code 533 = .ok (.invokevirtual 85, 3) := by decide +kernel
theorem d_Lw_law_536 : decode code 536 = .ok (.if_icmp .eq 71, 3) := by decide +kernel
theorem d_Lw_law_539 : decode code 539 = .ok (.iconst 0, 1) := by decide +kernel
theorem d_Lw_law_540 : decode code 540 = .ok (.ireturn, 1) := by decide +kernel
theorem d_Lw_law_541 : decode code 541 = .ok (.aload_n 1, 1) := by decide +kernel
theorem d_Lw_law_542 : decode code 542 = .ok (.aload_n 0, 1) := by decide +kernel
theorem d_Lw_law_543 : decode code 543 = .ok (.iload_n 3, 1) := by decide +kernel
theorem d_Lw_law_544 : decode code 544 = .ok (.iconst 1, 1) := by decide +kernel
theorem d_Lw_law_545 : decode code 545 = .ok (.iadd, 1) := by decide +kernel
theorem d_Lw_law_546 : decode code 546 = .ok (.iaload, 1) := by decide +kernel
theorem d_Lw_law_547 : decode code 547 = .ok (.i2l, 1) := by decide +kernel
theorem d_Lw_law_548 : decode code 548 = .ok (.bipush 32, 2) := by decide +kernel
theorem d_Lw_law_550 : decode code 550 = .ok (.lshl, 1) := by decide +kernel
theorem d_Lw_law_551 : decode code 551 = .ok (.aload_n 0, 1) := by decide +kernel
theorem d_Lw_law_552 : decode code 552 = .ok (.iload_n 3, 1) := by decide +kernel
theorem d_Lw_law_553 : decode code 553 = .ok (.iconst 2, 1) := by decide +kernel
theorem d_Lw_law_554 : decode code 554 = .ok (.iadd, 1) := by decide +kernel
theorem d_Lw_law_555 : decode code 555 = .ok (.iaload, 1) := by decide +kernel
theorem d_Lw_law_556 : decode code 556 = .ok (.i2l, 1) := by decide +kernel
theorem d_Lw_law_557 : decode code 557 = .ok (.ldc2_w 86, 3) := by decide +kernel
theorem d_Lw_law_560 : decode code 560 = .ok (.land, 1) := by decide +kernel
theorem d_Lw_law_561 : decode code 561 = .ok (.lor, 1) := by decide +kernel
theorem d_Lw_law_562 : decode code 562 = .ok (.invokevirtual 88, 3) := by decide +kernel
theorem d_Lw_law_565 : decode code 565 = .ok (.aload_n 2, 1) := by decide +kernel
theorem d_Lw_law_566 : decode code 566 = .ok (.aload_n 0, 1) := by decide +kernel
theorem d_Lw_law_567 : decode code 567 = .ok (.iload_n 3, 1) := by decide +kernel
theorem d_Lw_law_568 : decode code 568 = .ok (.iconst 1, 1) := by decide +kernel
theorem d_Lw_law_569 : decode code 569 = .ok (.iadd, 1) := by decide +kernel
theorem d_Lw_law_570 : decode code 570 = .ok (.iaload, 1) := by decide +kernel
theorem d_Lw_law_571 : decode code 571 = .ok (.i2l, 1) := by decide +kernel
theorem d_Lw_law_572 : decode code 572 = .ok (.bipush 32, 2) := by decide +kernel
theorem d_Lw_law_574 : decode code 574 = .ok (.lshl, 1) := by decide +kernel
theorem d_Lw_law_575 : decode code 575 = .ok (.aload_n 0, 1) := by decide +kernel
theorem d_Lw_law_576 : decode code 576 = .ok (.iload_n 3, 1) := by decide +kernel
theorem d_Lw_law_577 : decode code 577 = .ok (.iconst 2, 1) := by decide +kernel
theorem d_Lw_law_578 : decode code 578 = .ok (.iadd, 1) := by decide +kernel
theorem d_Lw_law_579 : decode code 579 = .ok (.iaload, 1) := by decide +kernel
theorem d_Lw_law_580 : decode code 580 = .ok (.i2l, 1) := by decide +kernel
theorem d_Lw_law_581 : decode code 581 = .ok (.ldc2_w 86, 3) := by decide +kernel
theorem d_Lw_law_584 : decode code 584 = .ok (.land, 1) := by decide +kernel
theorem d_Lw_law_585 : decode code 585 = .ok (.lor, 1) := by decide +kernel
theorem d_Lw_law_586 : decode code 586 = .ok (.invokevirtual 92, 3) := by decide +kernel
theorem d_Lw_law_589 : decode code 589 = .ok (.if_icmp .eq 18, 3) := by decide +kernel
theorem d_Lw_law_592 : decode code 592 = .ok (.iconst 0, 1) := by decide +kernel
theorem d_Lw_law_593 : decode code 593 = .ok (.ireturn, 1) := by decide +kernel
theorem d_Lw_law_594 : decode code 594 = .ok (.aload_n 1, 1) := by decide +kernel
theorem d_Lw_law_595 : decode code 595 = .ok (.invokevirtual 93, 3) := by decide +kernel
theorem d_Lw_law_598 : decode code 598 = .ok (.aload_n 2, 1) := by decide +kernel
theorem d_Lw_law_599 : decode code 599 = .ok (.invokevirtual 97, 3) := by decide +kernel
theorem d_Lw_law_602 : decode code 602 = .ok (.if_icmp .eq 5, 3) := by decide +kernel
theorem d_Lw_law_605 : decode code 605 = .ok (.iconst 0, 1) := by decide +kernel
theorem d_Lw_law_606 : decode code 606 = .ok (.ireturn, 1) := by decide +kernel
theorem d_Lw_law_607 : decode code 607 = .ok (.iinc 3 3, 3) := by decide +kernel
theorem d_Lw_law_610 : decode code 610 = .ok (.goto (-592), 3) := by decide +kernel
theorem d_Lw_law_613 : decode code 613 = .ok (.iconst 1, 1) := by decide +kernel
theorem d_Lw_law_614 : decode code 614 = .ok (.ireturn, 1) := by decide +kernel
