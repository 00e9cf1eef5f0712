/-! ===== the law, walked: decode rows, links, a theorem a case (printed by program) ===== -/
theorem eL_0 : q_d mL 0 3 (.new 7) 3 := ⟨by decide +kernel, rfl⟩
theorem eL_3 : q_d mL 3 1 (.dup) 4 := ⟨by decide +kernel, rfl⟩
theorem eL_4 : q_d mL 4 3 (.invokespecial 9) 7 := ⟨by decide +kernel, rfl⟩
theorem eL_7 : q_d mL 7 1 (.astore_n 1) 8 := ⟨by decide +kernel, rfl⟩
theorem eL_8 : q_d mL 8 3 (.new 10) 11 := ⟨by decide +kernel, rfl⟩
theorem eL_11 : q_d mL 11 1 (.dup) 12 := ⟨by decide +kernel, rfl⟩
theorem eL_12 : q_d mL 12 3 (.invokespecial 12) 15 := ⟨by decide +kernel, rfl⟩
theorem eL_15 : q_d mL 15 1 (.astore_n 2) 16 := ⟨by decide +kernel, rfl⟩
theorem eL_16 : q_d mL 16 1 (.iconst 0) 17 := ⟨by decide +kernel, rfl⟩
theorem eL_17 : q_d mL 17 1 (.istore_n 3) 18 := ⟨by decide +kernel, rfl⟩
theorem eL_18 : q_d mL 18 1 (.iload_n 3) 19 := ⟨by decide +kernel, rfl⟩
theorem eL_19 : q_d mL 19 1 (.aload_n 0) 20 := ⟨by decide +kernel, rfl⟩
theorem eL_20 : q_d mL 20 1 (.arraylength) 21 := ⟨by decide +kernel, rfl⟩
theorem eL_21 : q_d mL 21 2 (.bipush 7) 23 := ⟨by decide +kernel, rfl⟩
theorem eL_23 : q_d mL 23 1 (.isub) 24 := ⟨by decide +kernel, rfl⟩
theorem eL_24 : q_d mL 24 3 (.if_icmp .gt 1400) 27 := ⟨by decide +kernel, rfl⟩
theorem eL_27 : q_d mL 27 1 (.aload_n 0) 28 := ⟨by decide +kernel, rfl⟩
theorem eL_28 : q_d mL 28 1 (.iload_n 3) 29 := ⟨by decide +kernel, rfl⟩
theorem eL_29 : q_d mL 29 1 (.iaload) 30 := ⟨by decide +kernel, rfl⟩
theorem eL_30 : q_d mL 30 2 (.bipush 63) 32 := ⟨by decide +kernel, rfl⟩
theorem eL_32 : q_d mL 32 1 (.iand) 33 := ⟨by decide +kernel, rfl⟩
theorem eL_33 : q_d mL 33 151 (.tableswitch 1385 0 33 #[151, 214, 237, 250, 263, 316, 369, 444, 487, 510, 533, 576, 589, 602, 625, 648, 681, 714, 757, 810, 863, 906, 929, 982, 1025, 1058, 1091, 1144, 1187, 1230, 1263, 1296, 1339, 1362]) 184 := ⟨by decide +kernel, rfl⟩
theorem eL_184 : q_d mL 184 1 (.aload_n 1) 185 := ⟨by decide +kernel, rfl⟩
theorem eL_185 : q_d mL 185 1 (.aload_n 0) 186 := ⟨by decide +kernel, rfl⟩
theorem eL_186 : q_d mL 186 1 (.iload_n 3) 187 := ⟨by decide +kernel, rfl⟩
theorem eL_187 : q_d mL 187 1 (.iconst 1) 188 := ⟨by decide +kernel, rfl⟩
theorem eL_188 : q_d mL 188 1 (.iadd) 189 := ⟨by decide +kernel, rfl⟩
theorem eL_189 : q_d mL 189 1 (.iaload) 190 := ⟨by decide +kernel, rfl⟩
theorem eL_190 : q_d mL 190 1 (.aload_n 0) 191 := ⟨by decide +kernel, rfl⟩
theorem eL_191 : q_d mL 191 1 (.iload_n 3) 192 := ⟨by decide +kernel, rfl⟩
theorem eL_192 : q_d mL 192 1 (.iconst 2) 193 := ⟨by decide +kernel, rfl⟩
theorem eL_193 : q_d mL 193 1 (.iadd) 194 := ⟨by decide +kernel, rfl⟩
theorem eL_194 : q_d mL 194 1 (.iaload) 195 := ⟨by decide +kernel, rfl⟩
theorem eL_195 : q_d mL 195 1 (.aload_n 0) 196 := ⟨by decide +kernel, rfl⟩
theorem eL_196 : q_d mL 196 1 (.iload_n 3) 197 := ⟨by decide +kernel, rfl⟩
theorem eL_197 : q_d mL 197 1 (.iconst 3) 198 := ⟨by decide +kernel, rfl⟩
theorem eL_198 : q_d mL 198 1 (.iadd) 199 := ⟨by decide +kernel, rfl⟩
theorem eL_199 : q_d mL 199 1 (.iaload) 200 := ⟨by decide +kernel, rfl⟩
theorem eL_200 : q_d mL 200 1 (.aload_n 0) 201 := ⟨by decide +kernel, rfl⟩
theorem eL_201 : q_d mL 201 1 (.iload_n 3) 202 := ⟨by decide +kernel, rfl⟩
theorem eL_202 : q_d mL 202 1 (.iconst 4) 203 := ⟨by decide +kernel, rfl⟩
theorem eL_203 : q_d mL 203 1 (.iadd) 204 := ⟨by decide +kernel, rfl⟩
theorem eL_204 : q_d mL 204 1 (.iaload) 205 := ⟨by decide +kernel, rfl⟩
theorem eL_205 : q_d mL 205 1 (.aload_n 0) 206 := ⟨by decide +kernel, rfl⟩
theorem eL_206 : q_d mL 206 1 (.iload_n 3) 207 := ⟨by decide +kernel, rfl⟩
theorem eL_207 : q_d mL 207 1 (.iconst 5) 208 := ⟨by decide +kernel, rfl⟩
theorem eL_208 : q_d mL 208 1 (.iadd) 209 := ⟨by decide +kernel, rfl⟩
theorem eL_209 : q_d mL 209 1 (.iaload) 210 := ⟨by decide +kernel, rfl⟩
theorem eL_210 : q_d mL 210 3 (.invokevirtual 13) 213 := ⟨by decide +kernel, rfl⟩
theorem eL_213 : q_d mL 213 1 (.aload_n 2) 214 := ⟨by decide +kernel, rfl⟩
theorem eL_214 : q_d mL 214 1 (.aload_n 0) 215 := ⟨by decide +kernel, rfl⟩
theorem eL_215 : q_d mL 215 1 (.iload_n 3) 216 := ⟨by decide +kernel, rfl⟩
theorem eL_216 : q_d mL 216 1 (.iconst 1) 217 := ⟨by decide +kernel, rfl⟩
theorem eL_217 : q_d mL 217 1 (.iadd) 218 := ⟨by decide +kernel, rfl⟩
theorem eL_218 : q_d mL 218 1 (.iaload) 219 := ⟨by decide +kernel, rfl⟩
theorem eL_219 : q_d mL 219 1 (.aload_n 0) 220 := ⟨by decide +kernel, rfl⟩
theorem eL_220 : q_d mL 220 1 (.iload_n 3) 221 := ⟨by decide +kernel, rfl⟩
theorem eL_221 : q_d mL 221 1 (.iconst 2) 222 := ⟨by decide +kernel, rfl⟩
theorem eL_222 : q_d mL 222 1 (.iadd) 223 := ⟨by decide +kernel, rfl⟩
theorem eL_223 : q_d mL 223 1 (.iaload) 224 := ⟨by decide +kernel, rfl⟩
theorem eL_224 : q_d mL 224 1 (.aload_n 0) 225 := ⟨by decide +kernel, rfl⟩
theorem eL_225 : q_d mL 225 1 (.iload_n 3) 226 := ⟨by decide +kernel, rfl⟩
theorem eL_226 : q_d mL 226 1 (.iconst 3) 227 := ⟨by decide +kernel, rfl⟩
theorem eL_227 : q_d mL 227 1 (.iadd) 228 := ⟨by decide +kernel, rfl⟩
theorem eL_228 : q_d mL 228 1 (.iaload) 229 := ⟨by decide +kernel, rfl⟩
theorem eL_229 : q_d mL 229 1 (.aload_n 0) 230 := ⟨by decide +kernel, rfl⟩
theorem eL_230 : q_d mL 230 1 (.iload_n 3) 231 := ⟨by decide +kernel, rfl⟩
theorem eL_231 : q_d mL 231 1 (.iconst 4) 232 := ⟨by decide +kernel, rfl⟩
theorem eL_232 : q_d mL 232 1 (.iadd) 233 := ⟨by decide +kernel, rfl⟩
theorem eL_233 : q_d mL 233 1 (.iaload) 234 := ⟨by decide +kernel, rfl⟩
theorem eL_234 : q_d mL 234 1 (.aload_n 0) 235 := ⟨by decide +kernel, rfl⟩
theorem eL_235 : q_d mL 235 1 (.iload_n 3) 236 := ⟨by decide +kernel, rfl⟩
theorem eL_236 : q_d mL 236 1 (.iconst 5) 237 := ⟨by decide +kernel, rfl⟩
theorem eL_237 : q_d mL 237 1 (.iadd) 238 := ⟨by decide +kernel, rfl⟩
theorem eL_238 : q_d mL 238 1 (.iaload) 239 := ⟨by decide +kernel, rfl⟩
theorem eL_239 : q_d mL 239 3 (.invokevirtual 17) 242 := ⟨by decide +kernel, rfl⟩
theorem eL_242 : q_d mL 242 3 (.if_icmp .eq 1176) 245 := ⟨by decide +kernel, rfl⟩
theorem eL_245 : q_d mL 245 1 (.iconst 0) 246 := ⟨by decide +kernel, rfl⟩
theorem eL_246 : q_d mL 246 1 (.ireturn) 247 := ⟨by decide +kernel, rfl⟩
theorem eL_247 : q_d mL 247 1 (.aload_n 1) 248 := ⟨by decide +kernel, rfl⟩
theorem eL_248 : q_d mL 248 1 (.aload_n 0) 249 := ⟨by decide +kernel, rfl⟩
theorem eL_249 : q_d mL 249 1 (.iload_n 3) 250 := ⟨by decide +kernel, rfl⟩
theorem eL_250 : q_d mL 250 1 (.iconst 1) 251 := ⟨by decide +kernel, rfl⟩
theorem eL_251 : q_d mL 251 1 (.iadd) 252 := ⟨by decide +kernel, rfl⟩
theorem eL_252 : q_d mL 252 1 (.iaload) 253 := ⟨by decide +kernel, rfl⟩
theorem eL_253 : q_d mL 253 3 (.invokevirtual 18) 256 := ⟨by decide +kernel, rfl⟩
theorem eL_256 : q_d mL 256 1 (.aload_n 2) 257 := ⟨by decide +kernel, rfl⟩
theorem eL_257 : q_d mL 257 1 (.aload_n 0) 258 := ⟨by decide +kernel, rfl⟩
theorem eL_258 : q_d mL 258 1 (.iload_n 3) 259 := ⟨by decide +kernel, rfl⟩
theorem eL_259 : q_d mL 259 1 (.iconst 1) 260 := ⟨by decide +kernel, rfl⟩
theorem eL_260 : q_d mL 260 1 (.iadd) 261 := ⟨by decide +kernel, rfl⟩
theorem eL_261 : q_d mL 261 1 (.iaload) 262 := ⟨by decide +kernel, rfl⟩
theorem eL_262 : q_d mL 262 3 (.invokevirtual 22) 265 := ⟨by decide +kernel, rfl⟩
theorem eL_265 : q_d mL 265 3 (.if_icmp .eq 1153) 268 := ⟨by decide +kernel, rfl⟩
theorem eL_268 : q_d mL 268 1 (.iconst 0) 269 := ⟨by decide +kernel, rfl⟩
theorem eL_269 : q_d mL 269 1 (.ireturn) 270 := ⟨by decide +kernel, rfl⟩
theorem eL_270 : q_d mL 270 1 (.aload_n 1) 271 := ⟨by decide +kernel, rfl⟩
theorem eL_271 : q_d mL 271 3 (.invokevirtual 23) 274 := ⟨by decide +kernel, rfl⟩
theorem eL_274 : q_d mL 274 1 (.aload_n 2) 275 := ⟨by decide +kernel, rfl⟩
theorem eL_275 : q_d mL 275 3 (.invokevirtual 27) 278 := ⟨by decide +kernel, rfl⟩
theorem eL_278 : q_d mL 278 3 (.if_icmp .eq 1140) 281 := ⟨by decide +kernel, rfl⟩
theorem eL_281 : q_d mL 281 1 (.iconst 0) 282 := ⟨by decide +kernel, rfl⟩
theorem eL_282 : q_d mL 282 1 (.ireturn) 283 := ⟨by decide +kernel, rfl⟩
theorem eL_283 : q_d mL 283 1 (.aload_n 1) 284 := ⟨by decide +kernel, rfl⟩
theorem eL_284 : q_d mL 284 3 (.invokevirtual 28) 287 := ⟨by decide +kernel, rfl⟩
theorem eL_287 : q_d mL 287 1 (.aload_n 2) 288 := ⟨by decide +kernel, rfl⟩
theorem eL_288 : q_d mL 288 3 (.invokevirtual 31) 291 := ⟨by decide +kernel, rfl⟩
theorem eL_291 : q_d mL 291 3 (.if_icmp .eq 1127) 294 := ⟨by decide +kernel, rfl⟩
theorem eL_294 : q_d mL 294 1 (.iconst 0) 295 := ⟨by decide +kernel, rfl⟩
theorem eL_295 : q_d mL 295 1 (.ireturn) 296 := ⟨by decide +kernel, rfl⟩
theorem eL_296 : q_d mL 296 1 (.aload_n 1) 297 := ⟨by decide +kernel, rfl⟩
theorem eL_297 : q_d mL 297 1 (.aload_n 0) 298 := ⟨by decide +kernel, rfl⟩
theorem eL_298 : q_d mL 298 1 (.iload_n 3) 299 := ⟨by decide +kernel, rfl⟩
theorem eL_299 : q_d mL 299 1 (.iconst 1) 300 := ⟨by decide +kernel, rfl⟩
theorem eL_300 : q_d mL 300 1 (.iadd) 301 := ⟨by decide +kernel, rfl⟩
theorem eL_301 : q_d mL 301 1 (.iaload) 302 := ⟨by decide +kernel, rfl⟩
theorem eL_302 : q_d mL 302 1 (.aload_n 0) 303 := ⟨by decide +kernel, rfl⟩
theorem eL_303 : q_d mL 303 1 (.iload_n 3) 304 := ⟨by decide +kernel, rfl⟩
theorem eL_304 : q_d mL 304 1 (.iconst 2) 305 := ⟨by decide +kernel, rfl⟩
theorem eL_305 : q_d mL 305 1 (.iadd) 306 := ⟨by decide +kernel, rfl⟩
theorem eL_306 : q_d mL 306 1 (.iaload) 307 := ⟨by decide +kernel, rfl⟩
theorem eL_307 : q_d mL 307 1 (.aload_n 0) 308 := ⟨by decide +kernel, rfl⟩
theorem eL_308 : q_d mL 308 1 (.iload_n 3) 309 := ⟨by decide +kernel, rfl⟩
theorem eL_309 : q_d mL 309 1 (.iconst 3) 310 := ⟨by decide +kernel, rfl⟩
theorem eL_310 : q_d mL 310 1 (.iadd) 311 := ⟨by decide +kernel, rfl⟩
theorem eL_311 : q_d mL 311 1 (.iaload) 312 := ⟨by decide +kernel, rfl⟩
theorem eL_312 : q_d mL 312 1 (.aload_n 0) 313 := ⟨by decide +kernel, rfl⟩
theorem eL_313 : q_d mL 313 1 (.iload_n 3) 314 := ⟨by decide +kernel, rfl⟩
theorem eL_314 : q_d mL 314 1 (.iconst 4) 315 := ⟨by decide +kernel, rfl⟩
theorem eL_315 : q_d mL 315 1 (.iadd) 316 := ⟨by decide +kernel, rfl⟩
theorem eL_316 : q_d mL 316 1 (.iaload) 317 := ⟨by decide +kernel, rfl⟩
theorem eL_317 : q_d mL 317 3 (.invokevirtual 32) 320 := ⟨by decide +kernel, rfl⟩
theorem eL_320 : q_d mL 320 1 (.aload_n 2) 321 := ⟨by decide +kernel, rfl⟩
theorem eL_321 : q_d mL 321 1 (.aload_n 0) 322 := ⟨by decide +kernel, rfl⟩
theorem eL_322 : q_d mL 322 1 (.iload_n 3) 323 := ⟨by decide +kernel, rfl⟩
theorem eL_323 : q_d mL 323 1 (.iconst 1) 324 := ⟨by decide +kernel, rfl⟩
theorem eL_324 : q_d mL 324 1 (.iadd) 325 := ⟨by decide +kernel, rfl⟩
theorem eL_325 : q_d mL 325 1 (.iaload) 326 := ⟨by decide +kernel, rfl⟩
theorem eL_326 : q_d mL 326 1 (.aload_n 0) 327 := ⟨by decide +kernel, rfl⟩
theorem eL_327 : q_d mL 327 1 (.iload_n 3) 328 := ⟨by decide +kernel, rfl⟩
theorem eL_328 : q_d mL 328 1 (.iconst 2) 329 := ⟨by decide +kernel, rfl⟩
theorem eL_329 : q_d mL 329 1 (.iadd) 330 := ⟨by decide +kernel, rfl⟩
theorem eL_330 : q_d mL 330 1 (.iaload) 331 := ⟨by decide +kernel, rfl⟩
theorem eL_331 : q_d mL 331 1 (.aload_n 0) 332 := ⟨by decide +kernel, rfl⟩
theorem eL_332 : q_d mL 332 1 (.iload_n 3) 333 := ⟨by decide +kernel, rfl⟩
theorem eL_333 : q_d mL 333 1 (.iconst 3) 334 := ⟨by decide +kernel, rfl⟩
theorem eL_334 : q_d mL 334 1 (.iadd) 335 := ⟨by decide +kernel, rfl⟩
theorem eL_335 : q_d mL 335 1 (.iaload) 336 := ⟨by decide +kernel, rfl⟩
theorem eL_336 : q_d mL 336 1 (.aload_n 0) 337 := ⟨by decide +kernel, rfl⟩
theorem eL_337 : q_d mL 337 1 (.iload_n 3) 338 := ⟨by decide +kernel, rfl⟩
theorem eL_338 : q_d mL 338 1 (.iconst 4) 339 := ⟨by decide +kernel, rfl⟩
theorem eL_339 : q_d mL 339 1 (.iadd) 340 := ⟨by decide +kernel, rfl⟩
theorem eL_340 : q_d mL 340 1 (.iaload) 341 := ⟨by decide +kernel, rfl⟩
theorem eL_341 : q_d mL 341 3 (.invokevirtual 36) 344 := ⟨by decide +kernel, rfl⟩
theorem eL_344 : q_d mL 344 3 (.if_icmp .eq 1074) 347 := ⟨by decide +kernel, rfl⟩
theorem eL_347 : q_d mL 347 1 (.iconst 0) 348 := ⟨by decide +kernel, rfl⟩
theorem eL_348 : q_d mL 348 1 (.ireturn) 349 := ⟨by decide +kernel, rfl⟩
theorem eL_349 : q_d mL 349 1 (.aload_n 1) 350 := ⟨by decide +kernel, rfl⟩
theorem eL_350 : q_d mL 350 1 (.aload_n 0) 351 := ⟨by decide +kernel, rfl⟩
theorem eL_351 : q_d mL 351 1 (.iload_n 3) 352 := ⟨by decide +kernel, rfl⟩
theorem eL_352 : q_d mL 352 1 (.iconst 1) 353 := ⟨by decide +kernel, rfl⟩
theorem eL_353 : q_d mL 353 1 (.iadd) 354 := ⟨by decide +kernel, rfl⟩
theorem eL_354 : q_d mL 354 1 (.iaload) 355 := ⟨by decide +kernel, rfl⟩
theorem eL_355 : q_d mL 355 1 (.aload_n 0) 356 := ⟨by decide +kernel, rfl⟩
theorem eL_356 : q_d mL 356 1 (.iload_n 3) 357 := ⟨by decide +kernel, rfl⟩
theorem eL_357 : q_d mL 357 1 (.iconst 2) 358 := ⟨by decide +kernel, rfl⟩
theorem eL_358 : q_d mL 358 1 (.iadd) 359 := ⟨by decide +kernel, rfl⟩
theorem eL_359 : q_d mL 359 1 (.iaload) 360 := ⟨by decide +kernel, rfl⟩
theorem eL_360 : q_d mL 360 1 (.aload_n 0) 361 := ⟨by decide +kernel, rfl⟩
theorem eL_361 : q_d mL 361 1 (.iload_n 3) 362 := ⟨by decide +kernel, rfl⟩
theorem eL_362 : q_d mL 362 1 (.iconst 3) 363 := ⟨by decide +kernel, rfl⟩
theorem eL_363 : q_d mL 363 1 (.iadd) 364 := ⟨by decide +kernel, rfl⟩
theorem eL_364 : q_d mL 364 1 (.iaload) 365 := ⟨by decide +kernel, rfl⟩
theorem eL_365 : q_d mL 365 1 (.aload_n 0) 366 := ⟨by decide +kernel, rfl⟩
theorem eL_366 : q_d mL 366 1 (.iload_n 3) 367 := ⟨by decide +kernel, rfl⟩
theorem eL_367 : q_d mL 367 1 (.iconst 4) 368 := ⟨by decide +kernel, rfl⟩
theorem eL_368 : q_d mL 368 1 (.iadd) 369 := ⟨by decide +kernel, rfl⟩
theorem eL_369 : q_d mL 369 1 (.iaload) 370 := ⟨by decide +kernel, rfl⟩
theorem eL_370 : q_d mL 370 3 (.invokevirtual 37) 373 := ⟨by decide +kernel, rfl⟩
theorem eL_373 : q_d mL 373 1 (.aload_n 2) 374 := ⟨by decide +kernel, rfl⟩
theorem eL_374 : q_d mL 374 1 (.aload_n 0) 375 := ⟨by decide +kernel, rfl⟩
theorem eL_375 : q_d mL 375 1 (.iload_n 3) 376 := ⟨by decide +kernel, rfl⟩
theorem eL_376 : q_d mL 376 1 (.iconst 1) 377 := ⟨by decide +kernel, rfl⟩
theorem eL_377 : q_d mL 377 1 (.iadd) 378 := ⟨by decide +kernel, rfl⟩
theorem eL_378 : q_d mL 378 1 (.iaload) 379 := ⟨by decide +kernel, rfl⟩
theorem eL_379 : q_d mL 379 1 (.aload_n 0) 380 := ⟨by decide +kernel, rfl⟩
theorem eL_380 : q_d mL 380 1 (.iload_n 3) 381 := ⟨by decide +kernel, rfl⟩
theorem eL_381 : q_d mL 381 1 (.iconst 2) 382 := ⟨by decide +kernel, rfl⟩
theorem eL_382 : q_d mL 382 1 (.iadd) 383 := ⟨by decide +kernel, rfl⟩
theorem eL_383 : q_d mL 383 1 (.iaload) 384 := ⟨by decide +kernel, rfl⟩
theorem eL_384 : q_d mL 384 1 (.aload_n 0) 385 := ⟨by decide +kernel, rfl⟩
theorem eL_385 : q_d mL 385 1 (.iload_n 3) 386 := ⟨by decide +kernel, rfl⟩
theorem eL_386 : q_d mL 386 1 (.iconst 3) 387 := ⟨by decide +kernel, rfl⟩
theorem eL_387 : q_d mL 387 1 (.iadd) 388 := ⟨by decide +kernel, rfl⟩
theorem eL_388 : q_d mL 388 1 (.iaload) 389 := ⟨by decide +kernel, rfl⟩
theorem eL_389 : q_d mL 389 1 (.aload_n 0) 390 := ⟨by decide +kernel, rfl⟩
theorem eL_390 : q_d mL 390 1 (.iload_n 3) 391 := ⟨by decide +kernel, rfl⟩
theorem eL_391 : q_d mL 391 1 (.iconst 4) 392 := ⟨by decide +kernel, rfl⟩
theorem eL_392 : q_d mL 392 1 (.iadd) 393 := ⟨by decide +kernel, rfl⟩
theorem eL_393 : q_d mL 393 1 (.iaload) 394 := ⟨by decide +kernel, rfl⟩
theorem eL_394 : q_d mL 394 3 (.invokevirtual 40) 397 := ⟨by decide +kernel, rfl⟩
theorem eL_397 : q_d mL 397 3 (.if_icmp .eq 1021) 400 := ⟨by decide +kernel, rfl⟩
theorem eL_400 : q_d mL 400 1 (.iconst 0) 401 := ⟨by decide +kernel, rfl⟩
theorem eL_401 : q_d mL 401 1 (.ireturn) 402 := ⟨by decide +kernel, rfl⟩
theorem eL_402 : q_d mL 402 1 (.aload_n 1) 403 := ⟨by decide +kernel, rfl⟩
theorem eL_403 : q_d mL 403 1 (.aload_n 0) 404 := ⟨by decide +kernel, rfl⟩
theorem eL_404 : q_d mL 404 1 (.iload_n 3) 405 := ⟨by decide +kernel, rfl⟩
theorem eL_405 : q_d mL 405 1 (.iconst 1) 406 := ⟨by decide +kernel, rfl⟩
theorem eL_406 : q_d mL 406 1 (.iadd) 407 := ⟨by decide +kernel, rfl⟩
theorem eL_407 : q_d mL 407 1 (.iaload) 408 := ⟨by decide +kernel, rfl⟩
theorem eL_408 : q_d mL 408 1 (.aload_n 0) 409 := ⟨by decide +kernel, rfl⟩
theorem eL_409 : q_d mL 409 1 (.iload_n 3) 410 := ⟨by decide +kernel, rfl⟩
theorem eL_410 : q_d mL 410 1 (.iconst 2) 411 := ⟨by decide +kernel, rfl⟩
theorem eL_411 : q_d mL 411 1 (.iadd) 412 := ⟨by decide +kernel, rfl⟩
theorem eL_412 : q_d mL 412 1 (.iaload) 413 := ⟨by decide +kernel, rfl⟩
theorem eL_413 : q_d mL 413 1 (.aload_n 0) 414 := ⟨by decide +kernel, rfl⟩
theorem eL_414 : q_d mL 414 1 (.iload_n 3) 415 := ⟨by decide +kernel, rfl⟩
theorem eL_415 : q_d mL 415 1 (.iconst 3) 416 := ⟨by decide +kernel, rfl⟩
theorem eL_416 : q_d mL 416 1 (.iadd) 417 := ⟨by decide +kernel, rfl⟩
theorem eL_417 : q_d mL 417 1 (.iaload) 418 := ⟨by decide +kernel, rfl⟩
theorem eL_418 : q_d mL 418 1 (.aload_n 0) 419 := ⟨by decide +kernel, rfl⟩
theorem eL_419 : q_d mL 419 1 (.iload_n 3) 420 := ⟨by decide +kernel, rfl⟩
theorem eL_420 : q_d mL 420 1 (.iconst 4) 421 := ⟨by decide +kernel, rfl⟩
theorem eL_421 : q_d mL 421 1 (.iadd) 422 := ⟨by decide +kernel, rfl⟩
theorem eL_422 : q_d mL 422 1 (.iaload) 423 := ⟨by decide +kernel, rfl⟩
theorem eL_423 : q_d mL 423 1 (.aload_n 0) 424 := ⟨by decide +kernel, rfl⟩
theorem eL_424 : q_d mL 424 1 (.iload_n 3) 425 := ⟨by decide +kernel, rfl⟩
theorem eL_425 : q_d mL 425 1 (.iconst 5) 426 := ⟨by decide +kernel, rfl⟩
theorem eL_426 : q_d mL 426 1 (.iadd) 427 := ⟨by decide +kernel, rfl⟩
theorem eL_427 : q_d mL 427 1 (.iaload) 428 := ⟨by decide +kernel, rfl⟩
theorem eL_428 : q_d mL 428 1 (.aload_n 0) 429 := ⟨by decide +kernel, rfl⟩
theorem eL_429 : q_d mL 429 1 (.iload_n 3) 430 := ⟨by decide +kernel, rfl⟩
theorem eL_430 : q_d mL 430 2 (.bipush 6) 432 := ⟨by decide +kernel, rfl⟩
theorem eL_432 : q_d mL 432 1 (.iadd) 433 := ⟨by decide +kernel, rfl⟩
theorem eL_433 : q_d mL 433 1 (.iaload) 434 := ⟨by decide +kernel, rfl⟩
theorem eL_434 : q_d mL 434 3 (.invokevirtual 41) 437 := ⟨by decide +kernel, rfl⟩
theorem eL_437 : q_d mL 437 1 (.aload_n 2) 438 := ⟨by decide +kernel, rfl⟩
theorem eL_438 : q_d mL 438 1 (.aload_n 0) 439 := ⟨by decide +kernel, rfl⟩
theorem eL_439 : q_d mL 439 1 (.iload_n 3) 440 := ⟨by decide +kernel, rfl⟩
theorem eL_440 : q_d mL 440 1 (.iconst 1) 441 := ⟨by decide +kernel, rfl⟩
theorem eL_441 : q_d mL 441 1 (.iadd) 442 := ⟨by decide +kernel, rfl⟩
theorem eL_442 : q_d mL 442 1 (.iaload) 443 := ⟨by decide +kernel, rfl⟩
theorem eL_443 : q_d mL 443 1 (.aload_n 0) 444 := ⟨by decide +kernel, rfl⟩
theorem eL_444 : q_d mL 444 1 (.iload_n 3) 445 := ⟨by decide +kernel, rfl⟩
theorem eL_445 : q_d mL 445 1 (.iconst 2) 446 := ⟨by decide +kernel, rfl⟩
theorem eL_446 : q_d mL 446 1 (.iadd) 447 := ⟨by decide +kernel, rfl⟩
theorem eL_447 : q_d mL 447 1 (.iaload) 448 := ⟨by decide +kernel, rfl⟩
theorem eL_448 : q_d mL 448 1 (.aload_n 0) 449 := ⟨by decide +kernel, rfl⟩
theorem eL_449 : q_d mL 449 1 (.iload_n 3) 450 := ⟨by decide +kernel, rfl⟩
theorem eL_450 : q_d mL 450 1 (.iconst 3) 451 := ⟨by decide +kernel, rfl⟩
theorem eL_451 : q_d mL 451 1 (.iadd) 452 := ⟨by decide +kernel, rfl⟩
theorem eL_452 : q_d mL 452 1 (.iaload) 453 := ⟨by decide +kernel, rfl⟩
theorem eL_453 : q_d mL 453 1 (.aload_n 0) 454 := ⟨by decide +kernel, rfl⟩
theorem eL_454 : q_d mL 454 1 (.iload_n 3) 455 := ⟨by decide +kernel, rfl⟩
theorem eL_455 : q_d mL 455 1 (.iconst 4) 456 := ⟨by decide +kernel, rfl⟩
theorem eL_456 : q_d mL 456 1 (.iadd) 457 := ⟨by decide +kernel, rfl⟩
theorem eL_457 : q_d mL 457 1 (.iaload) 458 := ⟨by decide +kernel, rfl⟩
theorem eL_458 : q_d mL 458 1 (.aload_n 0) 459 := ⟨by decide +kernel, rfl⟩
theorem eL_459 : q_d mL 459 1 (.iload_n 3) 460 := ⟨by decide +kernel, rfl⟩
theorem eL_460 : q_d mL 460 1 (.iconst 5) 461 := ⟨by decide +kernel, rfl⟩
theorem eL_461 : q_d mL 461 1 (.iadd) 462 := ⟨by decide +kernel, rfl⟩
theorem eL_462 : q_d mL 462 1 (.iaload) 463 := ⟨by decide +kernel, rfl⟩
theorem eL_463 : q_d mL 463 1 (.aload_n 0) 464 := ⟨by decide +kernel, rfl⟩
theorem eL_464 : q_d mL 464 1 (.iload_n 3) 465 := ⟨by decide +kernel, rfl⟩
theorem eL_465 : q_d mL 465 2 (.bipush 6) 467 := ⟨by decide +kernel, rfl⟩
theorem eL_467 : q_d mL 467 1 (.iadd) 468 := ⟨by decide +kernel, rfl⟩
theorem eL_468 : q_d mL 468 1 (.iaload) 469 := ⟨by decide +kernel, rfl⟩
theorem eL_469 : q_d mL 469 3 (.invokevirtual 45) 472 := ⟨by decide +kernel, rfl⟩
theorem eL_472 : q_d mL 472 3 (.if_icmp .eq 946) 475 := ⟨by decide +kernel, rfl⟩
theorem eL_475 : q_d mL 475 1 (.iconst 0) 476 := ⟨by decide +kernel, rfl⟩
theorem eL_476 : q_d mL 476 1 (.ireturn) 477 := ⟨by decide +kernel, rfl⟩
theorem eL_477 : q_d mL 477 1 (.aload_n 1) 478 := ⟨by decide +kernel, rfl⟩
theorem eL_478 : q_d mL 478 1 (.aload_n 0) 479 := ⟨by decide +kernel, rfl⟩
theorem eL_479 : q_d mL 479 1 (.iload_n 3) 480 := ⟨by decide +kernel, rfl⟩
theorem eL_480 : q_d mL 480 1 (.iconst 1) 481 := ⟨by decide +kernel, rfl⟩
theorem eL_481 : q_d mL 481 1 (.iadd) 482 := ⟨by decide +kernel, rfl⟩
theorem eL_482 : q_d mL 482 1 (.iaload) 483 := ⟨by decide +kernel, rfl⟩
theorem eL_483 : q_d mL 483 1 (.aload_n 0) 484 := ⟨by decide +kernel, rfl⟩
theorem eL_484 : q_d mL 484 1 (.iload_n 3) 485 := ⟨by decide +kernel, rfl⟩
theorem eL_485 : q_d mL 485 1 (.iconst 2) 486 := ⟨by decide +kernel, rfl⟩
theorem eL_486 : q_d mL 486 1 (.iadd) 487 := ⟨by decide +kernel, rfl⟩
theorem eL_487 : q_d mL 487 1 (.iaload) 488 := ⟨by decide +kernel, rfl⟩
theorem eL_488 : q_d mL 488 1 (.aload_n 0) 489 := ⟨by decide +kernel, rfl⟩
theorem eL_489 : q_d mL 489 1 (.iload_n 3) 490 := ⟨by decide +kernel, rfl⟩
theorem eL_490 : q_d mL 490 1 (.iconst 3) 491 := ⟨by decide +kernel, rfl⟩
theorem eL_491 : q_d mL 491 1 (.iadd) 492 := ⟨by decide +kernel, rfl⟩
theorem eL_492 : q_d mL 492 1 (.iaload) 493 := ⟨by decide +kernel, rfl⟩
theorem eL_493 : q_d mL 493 3 (.invokevirtual 46) 496 := ⟨by decide +kernel, rfl⟩
theorem eL_496 : q_d mL 496 1 (.aload_n 2) 497 := ⟨by decide +kernel, rfl⟩
theorem eL_497 : q_d mL 497 1 (.aload_n 0) 498 := ⟨by decide +kernel, rfl⟩
theorem eL_498 : q_d mL 498 1 (.iload_n 3) 499 := ⟨by decide +kernel, rfl⟩
theorem eL_499 : q_d mL 499 1 (.iconst 1) 500 := ⟨by decide +kernel, rfl⟩
theorem eL_500 : q_d mL 500 1 (.iadd) 501 := ⟨by decide +kernel, rfl⟩
theorem eL_501 : q_d mL 501 1 (.iaload) 502 := ⟨by decide +kernel, rfl⟩
theorem eL_502 : q_d mL 502 1 (.aload_n 0) 503 := ⟨by decide +kernel, rfl⟩
theorem eL_503 : q_d mL 503 1 (.iload_n 3) 504 := ⟨by decide +kernel, rfl⟩
theorem eL_504 : q_d mL 504 1 (.iconst 2) 505 := ⟨by decide +kernel, rfl⟩
theorem eL_505 : q_d mL 505 1 (.iadd) 506 := ⟨by decide +kernel, rfl⟩
theorem eL_506 : q_d mL 506 1 (.iaload) 507 := ⟨by decide +kernel, rfl⟩
theorem eL_507 : q_d mL 507 1 (.aload_n 0) 508 := ⟨by decide +kernel, rfl⟩
theorem eL_508 : q_d mL 508 1 (.iload_n 3) 509 := ⟨by decide +kernel, rfl⟩
theorem eL_509 : q_d mL 509 1 (.iconst 3) 510 := ⟨by decide +kernel, rfl⟩
theorem eL_510 : q_d mL 510 1 (.iadd) 511 := ⟨by decide +kernel, rfl⟩
theorem eL_511 : q_d mL 511 1 (.iaload) 512 := ⟨by decide +kernel, rfl⟩
theorem eL_512 : q_d mL 512 3 (.invokevirtual 50) 515 := ⟨by decide +kernel, rfl⟩
theorem eL_515 : q_d mL 515 3 (.if_icmp .eq 903) 518 := ⟨by decide +kernel, rfl⟩
theorem eL_518 : q_d mL 518 1 (.iconst 0) 519 := ⟨by decide +kernel, rfl⟩
theorem eL_519 : q_d mL 519 1 (.ireturn) 520 := ⟨by decide +kernel, rfl⟩
theorem eL_520 : q_d mL 520 1 (.aload_n 1) 521 := ⟨by decide +kernel, rfl⟩
theorem eL_521 : q_d mL 521 1 (.aload_n 0) 522 := ⟨by decide +kernel, rfl⟩
theorem eL_522 : q_d mL 522 1 (.iload_n 3) 523 := ⟨by decide +kernel, rfl⟩
theorem eL_523 : q_d mL 523 1 (.iconst 1) 524 := ⟨by decide +kernel, rfl⟩
theorem eL_524 : q_d mL 524 1 (.iadd) 525 := ⟨by decide +kernel, rfl⟩
theorem eL_525 : q_d mL 525 1 (.iaload) 526 := ⟨by decide +kernel, rfl⟩
theorem eL_526 : q_d mL 526 3 (.invokevirtual 51) 529 := ⟨by decide +kernel, rfl⟩
theorem eL_529 : q_d mL 529 1 (.aload_n 2) 530 := ⟨by decide +kernel, rfl⟩
theorem eL_530 : q_d mL 530 1 (.aload_n 0) 531 := ⟨by decide +kernel, rfl⟩
theorem eL_531 : q_d mL 531 1 (.iload_n 3) 532 := ⟨by decide +kernel, rfl⟩
theorem eL_532 : q_d mL 532 1 (.iconst 1) 533 := ⟨by decide +kernel, rfl⟩
theorem eL_533 : q_d mL 533 1 (.iadd) 534 := ⟨by decide +kernel, rfl⟩
theorem eL_534 : q_d mL 534 1 (.iaload) 535 := ⟨by decide +kernel, rfl⟩
theorem eL_535 : q_d mL 535 3 (.invokevirtual 54) 538 := ⟨by decide +kernel, rfl⟩
theorem eL_538 : q_d mL 538 3 (.if_icmp .eq 880) 541 := ⟨by decide +kernel, rfl⟩
theorem eL_541 : q_d mL 541 1 (.iconst 0) 542 := ⟨by decide +kernel, rfl⟩
theorem eL_542 : q_d mL 542 1 (.ireturn) 543 := ⟨by decide +kernel, rfl⟩
theorem eL_543 : q_d mL 543 1 (.aload_n 1) 544 := ⟨by decide +kernel, rfl⟩
theorem eL_544 : q_d mL 544 1 (.aload_n 0) 545 := ⟨by decide +kernel, rfl⟩
theorem eL_545 : q_d mL 545 1 (.iload_n 3) 546 := ⟨by decide +kernel, rfl⟩
theorem eL_546 : q_d mL 546 1 (.iconst 1) 547 := ⟨by decide +kernel, rfl⟩
theorem eL_547 : q_d mL 547 1 (.iadd) 548 := ⟨by decide +kernel, rfl⟩
theorem eL_548 : q_d mL 548 1 (.iaload) 549 := ⟨by decide +kernel, rfl⟩
theorem eL_549 : q_d mL 549 3 (.invokevirtual 55) 552 := ⟨by decide +kernel, rfl⟩
theorem eL_552 : q_d mL 552 1 (.aload_n 2) 553 := ⟨by decide +kernel, rfl⟩
theorem eL_553 : q_d mL 553 1 (.aload_n 0) 554 := ⟨by decide +kernel, rfl⟩
theorem eL_554 : q_d mL 554 1 (.iload_n 3) 555 := ⟨by decide +kernel, rfl⟩
theorem eL_555 : q_d mL 555 1 (.iconst 1) 556 := ⟨by decide +kernel, rfl⟩
theorem eL_556 : q_d mL 556 1 (.iadd) 557 := ⟨by decide +kernel, rfl⟩
theorem eL_557 : q_d mL 557 1 (.iaload) 558 := ⟨by decide +kernel, rfl⟩
theorem eL_558 : q_d mL 558 3 (.invokevirtual 58) 561 := ⟨by decide +kernel, rfl⟩
theorem eL_561 : q_d mL 561 3 (.if_icmp .eq 857) 564 := ⟨by decide +kernel, rfl⟩
theorem eL_564 : q_d mL 564 1 (.iconst 0) 565 := ⟨by decide +kernel, rfl⟩
theorem eL_565 : q_d mL 565 1 (.ireturn) 566 := ⟨by decide +kernel, rfl⟩
theorem eL_566 : q_d mL 566 1 (.aload_n 1) 567 := ⟨by decide +kernel, rfl⟩
theorem eL_567 : q_d mL 567 1 (.aload_n 0) 568 := ⟨by decide +kernel, rfl⟩
theorem eL_568 : q_d mL 568 1 (.iload_n 3) 569 := ⟨by decide +kernel, rfl⟩
theorem eL_569 : q_d mL 569 1 (.iconst 1) 570 := ⟨by decide +kernel, rfl⟩
theorem eL_570 : q_d mL 570 1 (.iadd) 571 := ⟨by decide +kernel, rfl⟩
theorem eL_571 : q_d mL 571 1 (.iaload) 572 := ⟨by decide +kernel, rfl⟩
theorem eL_572 : q_d mL 572 1 (.aload_n 0) 573 := ⟨by decide +kernel, rfl⟩
theorem eL_573 : q_d mL 573 1 (.iload_n 3) 574 := ⟨by decide +kernel, rfl⟩
theorem eL_574 : q_d mL 574 1 (.iconst 2) 575 := ⟨by decide +kernel, rfl⟩
theorem eL_575 : q_d mL 575 1 (.iadd) 576 := ⟨by decide +kernel, rfl⟩
theorem eL_576 : q_d mL 576 1 (.iaload) 577 := ⟨by decide +kernel, rfl⟩
theorem eL_577 : q_d mL 577 1 (.aload_n 0) 578 := ⟨by decide +kernel, rfl⟩
theorem eL_578 : q_d mL 578 1 (.iload_n 3) 579 := ⟨by decide +kernel, rfl⟩
theorem eL_579 : q_d mL 579 1 (.iconst 3) 580 := ⟨by decide +kernel, rfl⟩
theorem eL_580 : q_d mL 580 1 (.iadd) 581 := ⟨by decide +kernel, rfl⟩
theorem eL_581 : q_d mL 581 1 (.iaload) 582 := ⟨by decide +kernel, rfl⟩
theorem eL_582 : q_d mL 582 3 (.invokevirtual 59) 585 := ⟨by decide +kernel, rfl⟩
theorem eL_585 : q_d mL 585 1 (.aload_n 2) 586 := ⟨by decide +kernel, rfl⟩
theorem eL_586 : q_d mL 586 1 (.aload_n 0) 587 := ⟨by decide +kernel, rfl⟩
theorem eL_587 : q_d mL 587 1 (.iload_n 3) 588 := ⟨by decide +kernel, rfl⟩
theorem eL_588 : q_d mL 588 1 (.iconst 1) 589 := ⟨by decide +kernel, rfl⟩
theorem eL_589 : q_d mL 589 1 (.iadd) 590 := ⟨by decide +kernel, rfl⟩
theorem eL_590 : q_d mL 590 1 (.iaload) 591 := ⟨by decide +kernel, rfl⟩
theorem eL_591 : q_d mL 591 1 (.aload_n 0) 592 := ⟨by decide +kernel, rfl⟩
theorem eL_592 : q_d mL 592 1 (.iload_n 3) 593 := ⟨by decide +kernel, rfl⟩
theorem eL_593 : q_d mL 593 1 (.iconst 2) 594 := ⟨by decide +kernel, rfl⟩
theorem eL_594 : q_d mL 594 1 (.iadd) 595 := ⟨by decide +kernel, rfl⟩
theorem eL_595 : q_d mL 595 1 (.iaload) 596 := ⟨by decide +kernel, rfl⟩
theorem eL_596 : q_d mL 596 1 (.aload_n 0) 597 := ⟨by decide +kernel, rfl⟩
theorem eL_597 : q_d mL 597 1 (.iload_n 3) 598 := ⟨by decide +kernel, rfl⟩
theorem eL_598 : q_d mL 598 1 (.iconst 3) 599 := ⟨by decide +kernel, rfl⟩
theorem eL_599 : q_d mL 599 1 (.iadd) 600 := ⟨by decide +kernel, rfl⟩
theorem eL_600 : q_d mL 600 1 (.iaload) 601 := ⟨by decide +kernel, rfl⟩
theorem eL_601 : q_d mL 601 3 (.invokevirtual 62) 604 := ⟨by decide +kernel, rfl⟩
theorem eL_604 : q_d mL 604 3 (.if_icmp .eq 814) 607 := ⟨by decide +kernel, rfl⟩
theorem eL_607 : q_d mL 607 1 (.iconst 0) 608 := ⟨by decide +kernel, rfl⟩
theorem eL_608 : q_d mL 608 1 (.ireturn) 609 := ⟨by decide +kernel, rfl⟩
theorem eL_609 : q_d mL 609 1 (.aload_n 1) 610 := ⟨by decide +kernel, rfl⟩
theorem eL_610 : q_d mL 610 3 (.invokevirtual 63) 613 := ⟨by decide +kernel, rfl⟩
theorem eL_613 : q_d mL 613 1 (.aload_n 2) 614 := ⟨by decide +kernel, rfl⟩
theorem eL_614 : q_d mL 614 3 (.invokevirtual 66) 617 := ⟨by decide +kernel, rfl⟩
theorem eL_617 : q_d mL 617 3 (.if_icmp .eq 801) 620 := ⟨by decide +kernel, rfl⟩
theorem eL_620 : q_d mL 620 1 (.iconst 0) 621 := ⟨by decide +kernel, rfl⟩
theorem eL_621 : q_d mL 621 1 (.ireturn) 622 := ⟨by decide +kernel, rfl⟩
theorem eL_622 : q_d mL 622 1 (.aload_n 1) 623 := ⟨by decide +kernel, rfl⟩
theorem eL_623 : q_d mL 623 3 (.invokevirtual 67) 626 := ⟨by decide +kernel, rfl⟩
theorem eL_626 : q_d mL 626 1 (.aload_n 2) 627 := ⟨by decide +kernel, rfl⟩
theorem eL_627 : q_d mL 627 3 (.invokevirtual 70) 630 := ⟨by decide +kernel, rfl⟩
theorem eL_630 : q_d mL 630 3 (.if_icmp .eq 788) 633 := ⟨by decide +kernel, rfl⟩
theorem eL_633 : q_d mL 633 1 (.iconst 0) 634 := ⟨by decide +kernel, rfl⟩
theorem eL_634 : q_d mL 634 1 (.ireturn) 635 := ⟨by decide +kernel, rfl⟩
theorem eL_635 : q_d mL 635 1 (.aload_n 1) 636 := ⟨by decide +kernel, rfl⟩
theorem eL_636 : q_d mL 636 1 (.aload_n 0) 637 := ⟨by decide +kernel, rfl⟩
theorem eL_637 : q_d mL 637 1 (.iload_n 3) 638 := ⟨by decide +kernel, rfl⟩
theorem eL_638 : q_d mL 638 1 (.iconst 1) 639 := ⟨by decide +kernel, rfl⟩
theorem eL_639 : q_d mL 639 1 (.iadd) 640 := ⟨by decide +kernel, rfl⟩
theorem eL_640 : q_d mL 640 1 (.iaload) 641 := ⟨by decide +kernel, rfl⟩
theorem eL_641 : q_d mL 641 3 (.invokevirtual 71) 644 := ⟨by decide +kernel, rfl⟩
theorem eL_644 : q_d mL 644 1 (.aload_n 2) 645 := ⟨by decide +kernel, rfl⟩
theorem eL_645 : q_d mL 645 1 (.aload_n 0) 646 := ⟨by decide +kernel, rfl⟩
theorem eL_646 : q_d mL 646 1 (.iload_n 3) 647 := ⟨by decide +kernel, rfl⟩
theorem eL_647 : q_d mL 647 1 (.iconst 1) 648 := ⟨by decide +kernel, rfl⟩
theorem eL_648 : q_d mL 648 1 (.iadd) 649 := ⟨by decide +kernel, rfl⟩
theorem eL_649 : q_d mL 649 1 (.iaload) 650 := ⟨by decide +kernel, rfl⟩
theorem eL_650 : q_d mL 650 3 (.invokevirtual 74) 653 := ⟨by decide +kernel, rfl⟩
theorem eL_653 : q_d mL 653 3 (.if_icmp .eq 765) 656 := ⟨by decide +kernel, rfl⟩
theorem eL_656 : q_d mL 656 1 (.iconst 0) 657 := ⟨by decide +kernel, rfl⟩
theorem eL_657 : q_d mL 657 1 (.ireturn) 658 := ⟨by decide +kernel, rfl⟩
theorem eL_658 : q_d mL 658 1 (.aload_n 1) 659 := ⟨by decide +kernel, rfl⟩
theorem eL_659 : q_d mL 659 1 (.aload_n 0) 660 := ⟨by decide +kernel, rfl⟩
theorem eL_660 : q_d mL 660 1 (.iload_n 3) 661 := ⟨by decide +kernel, rfl⟩
theorem eL_661 : q_d mL 661 1 (.iconst 1) 662 := ⟨by decide +kernel, rfl⟩
theorem eL_662 : q_d mL 662 1 (.iadd) 663 := ⟨by decide +kernel, rfl⟩
theorem eL_663 : q_d mL 663 1 (.iaload) 664 := ⟨by decide +kernel, rfl⟩
theorem eL_664 : q_d mL 664 3 (.invokevirtual 75) 667 := ⟨by decide +kernel, rfl⟩
theorem eL_667 : q_d mL 667 1 (.aload_n 2) 668 := ⟨by decide +kernel, rfl⟩
theorem eL_668 : q_d mL 668 1 (.aload_n 0) 669 := ⟨by decide +kernel, rfl⟩
theorem eL_669 : q_d mL 669 1 (.iload_n 3) 670 := ⟨by decide +kernel, rfl⟩
theorem eL_670 : q_d mL 670 1 (.iconst 1) 671 := ⟨by decide +kernel, rfl⟩
theorem eL_671 : q_d mL 671 1 (.iadd) 672 := ⟨by decide +kernel, rfl⟩
theorem eL_672 : q_d mL 672 1 (.iaload) 673 := ⟨by decide +kernel, rfl⟩
theorem eL_673 : q_d mL 673 3 (.invokevirtual 78) 676 := ⟨by decide +kernel, rfl⟩
theorem eL_676 : q_d mL 676 3 (.if_icmp .eq 742) 679 := ⟨by decide +kernel, rfl⟩
theorem eL_679 : q_d mL 679 1 (.iconst 0) 680 := ⟨by decide +kernel, rfl⟩
theorem eL_680 : q_d mL 680 1 (.ireturn) 681 := ⟨by decide +kernel, rfl⟩
theorem eL_681 : q_d mL 681 1 (.aload_n 1) 682 := ⟨by decide +kernel, rfl⟩
theorem eL_682 : q_d mL 682 1 (.aload_n 0) 683 := ⟨by decide +kernel, rfl⟩
theorem eL_683 : q_d mL 683 1 (.iload_n 3) 684 := ⟨by decide +kernel, rfl⟩
theorem eL_684 : q_d mL 684 1 (.iconst 1) 685 := ⟨by decide +kernel, rfl⟩
theorem eL_685 : q_d mL 685 1 (.iadd) 686 := ⟨by decide +kernel, rfl⟩
theorem eL_686 : q_d mL 686 1 (.iaload) 687 := ⟨by decide +kernel, rfl⟩
theorem eL_687 : q_d mL 687 1 (.aload_n 0) 688 := ⟨by decide +kernel, rfl⟩
theorem eL_688 : q_d mL 688 1 (.iload_n 3) 689 := ⟨by decide +kernel, rfl⟩
theorem eL_689 : q_d mL 689 1 (.iconst 2) 690 := ⟨by decide +kernel, rfl⟩
theorem eL_690 : q_d mL 690 1 (.iadd) 691 := ⟨by decide +kernel, rfl⟩
theorem eL_691 : q_d mL 691 1 (.iaload) 692 := ⟨by decide +kernel, rfl⟩
theorem eL_692 : q_d mL 692 3 (.invokevirtual 79) 695 := ⟨by decide +kernel, rfl⟩
theorem eL_695 : q_d mL 695 1 (.aload_n 2) 696 := ⟨by decide +kernel, rfl⟩
theorem eL_696 : q_d mL 696 1 (.aload_n 0) 697 := ⟨by decide +kernel, rfl⟩
theorem eL_697 : q_d mL 697 1 (.iload_n 3) 698 := ⟨by decide +kernel, rfl⟩
theorem eL_698 : q_d mL 698 1 (.iconst 1) 699 := ⟨by decide +kernel, rfl⟩
theorem eL_699 : q_d mL 699 1 (.iadd) 700 := ⟨by decide +kernel, rfl⟩
theorem eL_700 : q_d mL 700 1 (.iaload) 701 := ⟨by decide +kernel, rfl⟩
theorem eL_701 : q_d mL 701 1 (.aload_n 0) 702 := ⟨by decide +kernel, rfl⟩
theorem eL_702 : q_d mL 702 1 (.iload_n 3) 703 := ⟨by decide +kernel, rfl⟩
theorem eL_703 : q_d mL 703 1 (.iconst 2) 704 := ⟨by decide +kernel, rfl⟩
theorem eL_704 : q_d mL 704 1 (.iadd) 705 := ⟨by decide +kernel, rfl⟩
theorem eL_705 : q_d mL 705 1 (.iaload) 706 := ⟨by decide +kernel, rfl⟩
theorem eL_706 : q_d mL 706 3 (.invokevirtual 83) 709 := ⟨by decide +kernel, rfl⟩
theorem eL_709 : q_d mL 709 3 (.if_icmp .eq 709) 712 := ⟨by decide +kernel, rfl⟩
theorem eL_712 : q_d mL 712 1 (.iconst 0) 713 := ⟨by decide +kernel, rfl⟩
theorem eL_713 : q_d mL 713 1 (.ireturn) 714 := ⟨by decide +kernel, rfl⟩
theorem eL_714 : q_d mL 714 1 (.aload_n 1) 715 := ⟨by decide +kernel, rfl⟩
theorem eL_715 : q_d mL 715 1 (.aload_n 0) 716 := ⟨by decide +kernel, rfl⟩
theorem eL_716 : q_d mL 716 1 (.iload_n 3) 717 := ⟨by decide +kernel, rfl⟩
theorem eL_717 : q_d mL 717 1 (.iconst 1) 718 := ⟨by decide +kernel, rfl⟩
theorem eL_718 : q_d mL 718 1 (.iadd) 719 := ⟨by decide +kernel, rfl⟩
theorem eL_719 : q_d mL 719 1 (.iaload) 720 := ⟨by decide +kernel, rfl⟩
theorem eL_720 : q_d mL 720 1 (.aload_n 0) 721 := ⟨by decide +kernel, rfl⟩
theorem eL_721 : q_d mL 721 1 (.iload_n 3) 722 := ⟨by decide +kernel, rfl⟩
theorem eL_722 : q_d mL 722 1 (.iconst 2) 723 := ⟨by decide +kernel, rfl⟩
theorem eL_723 : q_d mL 723 1 (.iadd) 724 := ⟨by decide +kernel, rfl⟩
theorem eL_724 : q_d mL 724 1 (.iaload) 725 := ⟨by decide +kernel, rfl⟩
theorem eL_725 : q_d mL 725 3 (.invokevirtual 84) 728 := ⟨by decide +kernel, rfl⟩
theorem eL_728 : q_d mL 728 1 (.aload_n 2) 729 := ⟨by decide +kernel, rfl⟩
theorem eL_729 : q_d mL 729 1 (.aload_n 0) 730 := ⟨by decide +kernel, rfl⟩
theorem eL_730 : q_d mL 730 1 (.iload_n 3) 731 := ⟨by decide +kernel, rfl⟩
theorem eL_731 : q_d mL 731 1 (.iconst 1) 732 := ⟨by decide +kernel, rfl⟩
theorem eL_732 : q_d mL 732 1 (.iadd) 733 := ⟨by decide +kernel, rfl⟩
theorem eL_733 : q_d mL 733 1 (.iaload) 734 := ⟨by decide +kernel, rfl⟩
theorem eL_734 : q_d mL 734 1 (.aload_n 0) 735 := ⟨by decide +kernel, rfl⟩
theorem eL_735 : q_d mL 735 1 (.iload_n 3) 736 := ⟨by decide +kernel, rfl⟩
theorem eL_736 : q_d mL 736 1 (.iconst 2) 737 := ⟨by decide +kernel, rfl⟩
theorem eL_737 : q_d mL 737 1 (.iadd) 738 := ⟨by decide +kernel, rfl⟩
theorem eL_738 : q_d mL 738 1 (.iaload) 739 := ⟨by decide +kernel, rfl⟩
theorem eL_739 : q_d mL 739 3 (.invokevirtual 87) 742 := ⟨by decide +kernel, rfl⟩
theorem eL_742 : q_d mL 742 3 (.if_icmp .eq 676) 745 := ⟨by decide +kernel, rfl⟩
theorem eL_745 : q_d mL 745 1 (.iconst 0) 746 := ⟨by decide +kernel, rfl⟩
theorem eL_746 : q_d mL 746 1 (.ireturn) 747 := ⟨by decide +kernel, rfl⟩
theorem eL_747 : q_d mL 747 1 (.aload_n 1) 748 := ⟨by decide +kernel, rfl⟩
theorem eL_748 : q_d mL 748 1 (.aload_n 0) 749 := ⟨by decide +kernel, rfl⟩
theorem eL_749 : q_d mL 749 1 (.iload_n 3) 750 := ⟨by decide +kernel, rfl⟩
theorem eL_750 : q_d mL 750 1 (.iconst 1) 751 := ⟨by decide +kernel, rfl⟩
theorem eL_751 : q_d mL 751 1 (.iadd) 752 := ⟨by decide +kernel, rfl⟩
theorem eL_752 : q_d mL 752 1 (.iaload) 753 := ⟨by decide +kernel, rfl⟩
theorem eL_753 : q_d mL 753 1 (.aload_n 0) 754 := ⟨by decide +kernel, rfl⟩
theorem eL_754 : q_d mL 754 1 (.iload_n 3) 755 := ⟨by decide +kernel, rfl⟩
theorem eL_755 : q_d mL 755 1 (.iconst 2) 756 := ⟨by decide +kernel, rfl⟩
theorem eL_756 : q_d mL 756 1 (.iadd) 757 := ⟨by decide +kernel, rfl⟩
theorem eL_757 : q_d mL 757 1 (.iaload) 758 := ⟨by decide +kernel, rfl⟩
theorem eL_758 : q_d mL 758 1 (.aload_n 0) 759 := ⟨by decide +kernel, rfl⟩
theorem eL_759 : q_d mL 759 1 (.iload_n 3) 760 := ⟨by decide +kernel, rfl⟩
theorem eL_760 : q_d mL 760 1 (.iconst 3) 761 := ⟨by decide +kernel, rfl⟩
theorem eL_761 : q_d mL 761 1 (.iadd) 762 := ⟨by decide +kernel, rfl⟩
theorem eL_762 : q_d mL 762 1 (.iaload) 763 := ⟨by decide +kernel, rfl⟩
theorem eL_763 : q_d mL 763 3 (.invokevirtual 88) 766 := ⟨by decide +kernel, rfl⟩
theorem eL_766 : q_d mL 766 1 (.aload_n 2) 767 := ⟨by decide +kernel, rfl⟩
theorem eL_767 : q_d mL 767 1 (.aload_n 0) 768 := ⟨by decide +kernel, rfl⟩
theorem eL_768 : q_d mL 768 1 (.iload_n 3) 769 := ⟨by decide +kernel, rfl⟩
theorem eL_769 : q_d mL 769 1 (.iconst 1) 770 := ⟨by decide +kernel, rfl⟩
theorem eL_770 : q_d mL 770 1 (.iadd) 771 := ⟨by decide +kernel, rfl⟩
theorem eL_771 : q_d mL 771 1 (.iaload) 772 := ⟨by decide +kernel, rfl⟩
theorem eL_772 : q_d mL 772 1 (.aload_n 0) 773 := ⟨by decide +kernel, rfl⟩
theorem eL_773 : q_d mL 773 1 (.iload_n 3) 774 := ⟨by decide +kernel, rfl⟩
theorem eL_774 : q_d mL 774 1 (.iconst 2) 775 := ⟨by decide +kernel, rfl⟩
theorem eL_775 : q_d mL 775 1 (.iadd) 776 := ⟨by decide +kernel, rfl⟩
theorem eL_776 : q_d mL 776 1 (.iaload) 777 := ⟨by decide +kernel, rfl⟩
theorem eL_777 : q_d mL 777 1 (.aload_n 0) 778 := ⟨by decide +kernel, rfl⟩
theorem eL_778 : q_d mL 778 1 (.iload_n 3) 779 := ⟨by decide +kernel, rfl⟩
theorem eL_779 : q_d mL 779 1 (.iconst 3) 780 := ⟨by decide +kernel, rfl⟩
theorem eL_780 : q_d mL 780 1 (.iadd) 781 := ⟨by decide +kernel, rfl⟩
theorem eL_781 : q_d mL 781 1 (.iaload) 782 := ⟨by decide +kernel, rfl⟩
theorem eL_782 : q_d mL 782 3 (.invokevirtual 91) 785 := ⟨by decide +kernel, rfl⟩
theorem eL_785 : q_d mL 785 3 (.if_icmp .eq 633) 788 := ⟨by decide +kernel, rfl⟩
theorem eL_788 : q_d mL 788 1 (.iconst 0) 789 := ⟨by decide +kernel, rfl⟩
theorem eL_789 : q_d mL 789 1 (.ireturn) 790 := ⟨by decide +kernel, rfl⟩
theorem eL_790 : q_d mL 790 1 (.aload_n 1) 791 := ⟨by decide +kernel, rfl⟩
theorem eL_791 : q_d mL 791 1 (.aload_n 0) 792 := ⟨by decide +kernel, rfl⟩
theorem eL_792 : q_d mL 792 1 (.iload_n 3) 793 := ⟨by decide +kernel, rfl⟩
theorem eL_793 : q_d mL 793 1 (.iconst 1) 794 := ⟨by decide +kernel, rfl⟩
theorem eL_794 : q_d mL 794 1 (.iadd) 795 := ⟨by decide +kernel, rfl⟩
theorem eL_795 : q_d mL 795 1 (.iaload) 796 := ⟨by decide +kernel, rfl⟩
theorem eL_796 : q_d mL 796 1 (.aload_n 0) 797 := ⟨by decide +kernel, rfl⟩
theorem eL_797 : q_d mL 797 1 (.iload_n 3) 798 := ⟨by decide +kernel, rfl⟩
theorem eL_798 : q_d mL 798 1 (.iconst 2) 799 := ⟨by decide +kernel, rfl⟩
theorem eL_799 : q_d mL 799 1 (.iadd) 800 := ⟨by decide +kernel, rfl⟩
theorem eL_800 : q_d mL 800 1 (.iaload) 801 := ⟨by decide +kernel, rfl⟩
theorem eL_801 : q_d mL 801 1 (.aload_n 0) 802 := ⟨by decide +kernel, rfl⟩
theorem eL_802 : q_d mL 802 1 (.iload_n 3) 803 := ⟨by decide +kernel, rfl⟩
theorem eL_803 : q_d mL 803 1 (.iconst 3) 804 := ⟨by decide +kernel, rfl⟩
theorem eL_804 : q_d mL 804 1 (.iadd) 805 := ⟨by decide +kernel, rfl⟩
theorem eL_805 : q_d mL 805 1 (.iaload) 806 := ⟨by decide +kernel, rfl⟩
theorem eL_806 : q_d mL 806 1 (.aload_n 0) 807 := ⟨by decide +kernel, rfl⟩
theorem eL_807 : q_d mL 807 1 (.iload_n 3) 808 := ⟨by decide +kernel, rfl⟩
theorem eL_808 : q_d mL 808 1 (.iconst 4) 809 := ⟨by decide +kernel, rfl⟩
theorem eL_809 : q_d mL 809 1 (.iadd) 810 := ⟨by decide +kernel, rfl⟩
theorem eL_810 : q_d mL 810 1 (.iaload) 811 := ⟨by decide +kernel, rfl⟩
theorem eL_811 : q_d mL 811 3 (.invokevirtual 92) 814 := ⟨by decide +kernel, rfl⟩
theorem eL_814 : q_d mL 814 1 (.aload_n 2) 815 := ⟨by decide +kernel, rfl⟩
theorem eL_815 : q_d mL 815 1 (.aload_n 0) 816 := ⟨by decide +kernel, rfl⟩
theorem eL_816 : q_d mL 816 1 (.iload_n 3) 817 := ⟨by decide +kernel, rfl⟩
theorem eL_817 : q_d mL 817 1 (.iconst 1) 818 := ⟨by decide +kernel, rfl⟩
theorem eL_818 : q_d mL 818 1 (.iadd) 819 := ⟨by decide +kernel, rfl⟩
theorem eL_819 : q_d mL 819 1 (.iaload) 820 := ⟨by decide +kernel, rfl⟩
theorem eL_820 : q_d mL 820 1 (.aload_n 0) 821 := ⟨by decide +kernel, rfl⟩
theorem eL_821 : q_d mL 821 1 (.iload_n 3) 822 := ⟨by decide +kernel, rfl⟩
theorem eL_822 : q_d mL 822 1 (.iconst 2) 823 := ⟨by decide +kernel, rfl⟩
theorem eL_823 : q_d mL 823 1 (.iadd) 824 := ⟨by decide +kernel, rfl⟩
theorem eL_824 : q_d mL 824 1 (.iaload) 825 := ⟨by decide +kernel, rfl⟩
theorem eL_825 : q_d mL 825 1 (.aload_n 0) 826 := ⟨by decide +kernel, rfl⟩
theorem eL_826 : q_d mL 826 1 (.iload_n 3) 827 := ⟨by decide +kernel, rfl⟩
theorem eL_827 : q_d mL 827 1 (.iconst 3) 828 := ⟨by decide +kernel, rfl⟩
theorem eL_828 : q_d mL 828 1 (.iadd) 829 := ⟨by decide +kernel, rfl⟩
theorem eL_829 : q_d mL 829 1 (.iaload) 830 := ⟨by decide +kernel, rfl⟩
theorem eL_830 : q_d mL 830 1 (.aload_n 0) 831 := ⟨by decide +kernel, rfl⟩
theorem eL_831 : q_d mL 831 1 (.iload_n 3) 832 := ⟨by decide +kernel, rfl⟩
theorem eL_832 : q_d mL 832 1 (.iconst 4) 833 := ⟨by decide +kernel, rfl⟩
theorem eL_833 : q_d mL 833 1 (.iadd) 834 := ⟨by decide +kernel, rfl⟩
theorem eL_834 : q_d mL 834 1 (.iaload) 835 := ⟨by decide +kernel, rfl⟩
theorem eL_835 : q_d mL 835 3 (.invokevirtual 95) 838 := ⟨by decide +kernel, rfl⟩
theorem eL_838 : q_d mL 838 3 (.if_icmp .eq 580) 841 := ⟨by decide +kernel, rfl⟩
theorem eL_841 : q_d mL 841 1 (.iconst 0) 842 := ⟨by decide +kernel, rfl⟩
theorem eL_842 : q_d mL 842 1 (.ireturn) 843 := ⟨by decide +kernel, rfl⟩
theorem eL_843 : q_d mL 843 1 (.aload_n 1) 844 := ⟨by decide +kernel, rfl⟩
theorem eL_844 : q_d mL 844 1 (.aload_n 0) 845 := ⟨by decide +kernel, rfl⟩
theorem eL_845 : q_d mL 845 1 (.iload_n 3) 846 := ⟨by decide +kernel, rfl⟩
theorem eL_846 : q_d mL 846 1 (.iconst 1) 847 := ⟨by decide +kernel, rfl⟩
theorem eL_847 : q_d mL 847 1 (.iadd) 848 := ⟨by decide +kernel, rfl⟩
theorem eL_848 : q_d mL 848 1 (.iaload) 849 := ⟨by decide +kernel, rfl⟩
theorem eL_849 : q_d mL 849 1 (.aload_n 0) 850 := ⟨by decide +kernel, rfl⟩
theorem eL_850 : q_d mL 850 1 (.iload_n 3) 851 := ⟨by decide +kernel, rfl⟩
theorem eL_851 : q_d mL 851 1 (.iconst 2) 852 := ⟨by decide +kernel, rfl⟩
theorem eL_852 : q_d mL 852 1 (.iadd) 853 := ⟨by decide +kernel, rfl⟩
theorem eL_853 : q_d mL 853 1 (.iaload) 854 := ⟨by decide +kernel, rfl⟩
theorem eL_854 : q_d mL 854 1 (.aload_n 0) 855 := ⟨by decide +kernel, rfl⟩
theorem eL_855 : q_d mL 855 1 (.iload_n 3) 856 := ⟨by decide +kernel, rfl⟩
theorem eL_856 : q_d mL 856 1 (.iconst 3) 857 := ⟨by decide +kernel, rfl⟩
theorem eL_857 : q_d mL 857 1 (.iadd) 858 := ⟨by decide +kernel, rfl⟩
theorem eL_858 : q_d mL 858 1 (.iaload) 859 := ⟨by decide +kernel, rfl⟩
theorem eL_859 : q_d mL 859 1 (.aload_n 0) 860 := ⟨by decide +kernel, rfl⟩
theorem eL_860 : q_d mL 860 1 (.iload_n 3) 861 := ⟨by decide +kernel, rfl⟩
theorem eL_861 : q_d mL 861 1 (.iconst 4) 862 := ⟨by decide +kernel, rfl⟩
theorem eL_862 : q_d mL 862 1 (.iadd) 863 := ⟨by decide +kernel, rfl⟩
theorem eL_863 : q_d mL 863 1 (.iaload) 864 := ⟨by decide +kernel, rfl⟩
theorem eL_864 : q_d mL 864 3 (.invokevirtual 96) 867 := ⟨by decide +kernel, rfl⟩
theorem eL_867 : q_d mL 867 1 (.aload_n 2) 868 := ⟨by decide +kernel, rfl⟩
theorem eL_868 : q_d mL 868 1 (.aload_n 0) 869 := ⟨by decide +kernel, rfl⟩
theorem eL_869 : q_d mL 869 1 (.iload_n 3) 870 := ⟨by decide +kernel, rfl⟩
theorem eL_870 : q_d mL 870 1 (.iconst 1) 871 := ⟨by decide +kernel, rfl⟩
theorem eL_871 : q_d mL 871 1 (.iadd) 872 := ⟨by decide +kernel, rfl⟩
theorem eL_872 : q_d mL 872 1 (.iaload) 873 := ⟨by decide +kernel, rfl⟩
theorem eL_873 : q_d mL 873 1 (.aload_n 0) 874 := ⟨by decide +kernel, rfl⟩
theorem eL_874 : q_d mL 874 1 (.iload_n 3) 875 := ⟨by decide +kernel, rfl⟩
theorem eL_875 : q_d mL 875 1 (.iconst 2) 876 := ⟨by decide +kernel, rfl⟩
theorem eL_876 : q_d mL 876 1 (.iadd) 877 := ⟨by decide +kernel, rfl⟩
theorem eL_877 : q_d mL 877 1 (.iaload) 878 := ⟨by decide +kernel, rfl⟩
theorem eL_878 : q_d mL 878 1 (.aload_n 0) 879 := ⟨by decide +kernel, rfl⟩
theorem eL_879 : q_d mL 879 1 (.iload_n 3) 880 := ⟨by decide +kernel, rfl⟩
theorem eL_880 : q_d mL 880 1 (.iconst 3) 881 := ⟨by decide +kernel, rfl⟩
theorem eL_881 : q_d mL 881 1 (.iadd) 882 := ⟨by decide +kernel, rfl⟩
theorem eL_882 : q_d mL 882 1 (.iaload) 883 := ⟨by decide +kernel, rfl⟩
theorem eL_883 : q_d mL 883 1 (.aload_n 0) 884 := ⟨by decide +kernel, rfl⟩
theorem eL_884 : q_d mL 884 1 (.iload_n 3) 885 := ⟨by decide +kernel, rfl⟩
theorem eL_885 : q_d mL 885 1 (.iconst 4) 886 := ⟨by decide +kernel, rfl⟩
theorem eL_886 : q_d mL 886 1 (.iadd) 887 := ⟨by decide +kernel, rfl⟩
theorem eL_887 : q_d mL 887 1 (.iaload) 888 := ⟨by decide +kernel, rfl⟩
theorem eL_888 : q_d mL 888 3 (.invokevirtual 99) 891 := ⟨by decide +kernel, rfl⟩
theorem eL_891 : q_d mL 891 3 (.if_icmp .eq 527) 894 := ⟨by decide +kernel, rfl⟩
theorem eL_894 : q_d mL 894 1 (.iconst 0) 895 := ⟨by decide +kernel, rfl⟩
theorem eL_895 : q_d mL 895 1 (.ireturn) 896 := ⟨by decide +kernel, rfl⟩
theorem eL_896 : q_d mL 896 1 (.aload_n 1) 897 := ⟨by decide +kernel, rfl⟩
theorem eL_897 : q_d mL 897 1 (.aload_n 0) 898 := ⟨by decide +kernel, rfl⟩
theorem eL_898 : q_d mL 898 1 (.iload_n 3) 899 := ⟨by decide +kernel, rfl⟩
theorem eL_899 : q_d mL 899 1 (.iconst 1) 900 := ⟨by decide +kernel, rfl⟩
theorem eL_900 : q_d mL 900 1 (.iadd) 901 := ⟨by decide +kernel, rfl⟩
theorem eL_901 : q_d mL 901 1 (.iaload) 902 := ⟨by decide +kernel, rfl⟩
theorem eL_902 : q_d mL 902 1 (.aload_n 0) 903 := ⟨by decide +kernel, rfl⟩
theorem eL_903 : q_d mL 903 1 (.iload_n 3) 904 := ⟨by decide +kernel, rfl⟩
theorem eL_904 : q_d mL 904 1 (.iconst 2) 905 := ⟨by decide +kernel, rfl⟩
theorem eL_905 : q_d mL 905 1 (.iadd) 906 := ⟨by decide +kernel, rfl⟩
theorem eL_906 : q_d mL 906 1 (.iaload) 907 := ⟨by decide +kernel, rfl⟩
theorem eL_907 : q_d mL 907 1 (.aload_n 0) 908 := ⟨by decide +kernel, rfl⟩
theorem eL_908 : q_d mL 908 1 (.iload_n 3) 909 := ⟨by decide +kernel, rfl⟩
theorem eL_909 : q_d mL 909 1 (.iconst 3) 910 := ⟨by decide +kernel, rfl⟩
theorem eL_910 : q_d mL 910 1 (.iadd) 911 := ⟨by decide +kernel, rfl⟩
theorem eL_911 : q_d mL 911 1 (.iaload) 912 := ⟨by decide +kernel, rfl⟩
theorem eL_912 : q_d mL 912 3 (.invokevirtual 100) 915 := ⟨by decide +kernel, rfl⟩
theorem eL_915 : q_d mL 915 1 (.aload_n 2) 916 := ⟨by decide +kernel, rfl⟩
theorem eL_916 : q_d mL 916 1 (.aload_n 0) 917 := ⟨by decide +kernel, rfl⟩
theorem eL_917 : q_d mL 917 1 (.iload_n 3) 918 := ⟨by decide +kernel, rfl⟩
theorem eL_918 : q_d mL 918 1 (.iconst 1) 919 := ⟨by decide +kernel, rfl⟩
theorem eL_919 : q_d mL 919 1 (.iadd) 920 := ⟨by decide +kernel, rfl⟩
theorem eL_920 : q_d mL 920 1 (.iaload) 921 := ⟨by decide +kernel, rfl⟩
theorem eL_921 : q_d mL 921 1 (.aload_n 0) 922 := ⟨by decide +kernel, rfl⟩
theorem eL_922 : q_d mL 922 1 (.iload_n 3) 923 := ⟨by decide +kernel, rfl⟩
theorem eL_923 : q_d mL 923 1 (.iconst 2) 924 := ⟨by decide +kernel, rfl⟩
theorem eL_924 : q_d mL 924 1 (.iadd) 925 := ⟨by decide +kernel, rfl⟩
theorem eL_925 : q_d mL 925 1 (.iaload) 926 := ⟨by decide +kernel, rfl⟩
theorem eL_926 : q_d mL 926 1 (.aload_n 0) 927 := ⟨by decide +kernel, rfl⟩
theorem eL_927 : q_d mL 927 1 (.iload_n 3) 928 := ⟨by decide +kernel, rfl⟩
theorem eL_928 : q_d mL 928 1 (.iconst 3) 929 := ⟨by decide +kernel, rfl⟩
theorem eL_929 : q_d mL 929 1 (.iadd) 930 := ⟨by decide +kernel, rfl⟩
theorem eL_930 : q_d mL 930 1 (.iaload) 931 := ⟨by decide +kernel, rfl⟩
theorem eL_931 : q_d mL 931 3 (.invokevirtual 103) 934 := ⟨by decide +kernel, rfl⟩
theorem eL_934 : q_d mL 934 3 (.if_icmp .eq 484) 937 := ⟨by decide +kernel, rfl⟩
theorem eL_937 : q_d mL 937 1 (.iconst 0) 938 := ⟨by decide +kernel, rfl⟩
theorem eL_938 : q_d mL 938 1 (.ireturn) 939 := ⟨by decide +kernel, rfl⟩
theorem eL_939 : q_d mL 939 1 (.aload_n 1) 940 := ⟨by decide +kernel, rfl⟩
theorem eL_940 : q_d mL 940 1 (.aload_n 0) 941 := ⟨by decide +kernel, rfl⟩
theorem eL_941 : q_d mL 941 1 (.iload_n 3) 942 := ⟨by decide +kernel, rfl⟩
theorem eL_942 : q_d mL 942 1 (.iconst 1) 943 := ⟨by decide +kernel, rfl⟩
theorem eL_943 : q_d mL 943 1 (.iadd) 944 := ⟨by decide +kernel, rfl⟩
theorem eL_944 : q_d mL 944 1 (.iaload) 945 := ⟨by decide +kernel, rfl⟩
theorem eL_945 : q_d mL 945 3 (.invokevirtual 104) 948 := ⟨by decide +kernel, rfl⟩
theorem eL_948 : q_d mL 948 1 (.aload_n 2) 949 := ⟨by decide +kernel, rfl⟩
theorem eL_949 : q_d mL 949 1 (.aload_n 0) 950 := ⟨by decide +kernel, rfl⟩
theorem eL_950 : q_d mL 950 1 (.iload_n 3) 951 := ⟨by decide +kernel, rfl⟩
theorem eL_951 : q_d mL 951 1 (.iconst 1) 952 := ⟨by decide +kernel, rfl⟩
theorem eL_952 : q_d mL 952 1 (.iadd) 953 := ⟨by decide +kernel, rfl⟩
theorem eL_953 : q_d mL 953 1 (.iaload) 954 := ⟨by decide +kernel, rfl⟩
theorem eL_954 : q_d mL 954 3 (.invokevirtual 107) 957 := ⟨by decide +kernel, rfl⟩
theorem eL_957 : q_d mL 957 3 (.if_icmp .eq 461) 960 := ⟨by decide +kernel, rfl⟩
theorem eL_960 : q_d mL 960 1 (.iconst 0) 961 := ⟨by decide +kernel, rfl⟩
theorem eL_961 : q_d mL 961 1 (.ireturn) 962 := ⟨by decide +kernel, rfl⟩
theorem eL_962 : q_d mL 962 1 (.aload_n 1) 963 := ⟨by decide +kernel, rfl⟩
theorem eL_963 : q_d mL 963 1 (.aload_n 0) 964 := ⟨by decide +kernel, rfl⟩
theorem eL_964 : q_d mL 964 1 (.iload_n 3) 965 := ⟨by decide +kernel, rfl⟩
theorem eL_965 : q_d mL 965 1 (.iconst 1) 966 := ⟨by decide +kernel, rfl⟩
theorem eL_966 : q_d mL 966 1 (.iadd) 967 := ⟨by decide +kernel, rfl⟩
theorem eL_967 : q_d mL 967 1 (.iaload) 968 := ⟨by decide +kernel, rfl⟩
theorem eL_968 : q_d mL 968 1 (.aload_n 0) 969 := ⟨by decide +kernel, rfl⟩
theorem eL_969 : q_d mL 969 1 (.iload_n 3) 970 := ⟨by decide +kernel, rfl⟩
theorem eL_970 : q_d mL 970 1 (.iconst 2) 971 := ⟨by decide +kernel, rfl⟩
theorem eL_971 : q_d mL 971 1 (.iadd) 972 := ⟨by decide +kernel, rfl⟩
theorem eL_972 : q_d mL 972 1 (.iaload) 973 := ⟨by decide +kernel, rfl⟩
theorem eL_973 : q_d mL 973 1 (.aload_n 0) 974 := ⟨by decide +kernel, rfl⟩
theorem eL_974 : q_d mL 974 1 (.iload_n 3) 975 := ⟨by decide +kernel, rfl⟩
theorem eL_975 : q_d mL 975 1 (.iconst 3) 976 := ⟨by decide +kernel, rfl⟩
theorem eL_976 : q_d mL 976 1 (.iadd) 977 := ⟨by decide +kernel, rfl⟩
theorem eL_977 : q_d mL 977 1 (.iaload) 978 := ⟨by decide +kernel, rfl⟩
theorem eL_978 : q_d mL 978 1 (.aload_n 0) 979 := ⟨by decide +kernel, rfl⟩
theorem eL_979 : q_d mL 979 1 (.iload_n 3) 980 := ⟨by decide +kernel, rfl⟩
theorem eL_980 : q_d mL 980 1 (.iconst 4) 981 := ⟨by decide +kernel, rfl⟩
theorem eL_981 : q_d mL 981 1 (.iadd) 982 := ⟨by decide +kernel, rfl⟩
theorem eL_982 : q_d mL 982 1 (.iaload) 983 := ⟨by decide +kernel, rfl⟩
theorem eL_983 : q_d mL 983 3 (.invokevirtual 108) 986 := ⟨by decide +kernel, rfl⟩
theorem eL_986 : q_d mL 986 1 (.aload_n 2) 987 := ⟨by decide +kernel, rfl⟩
theorem eL_987 : q_d mL 987 1 (.aload_n 0) 988 := ⟨by decide +kernel, rfl⟩
theorem eL_988 : q_d mL 988 1 (.iload_n 3) 989 := ⟨by decide +kernel, rfl⟩
theorem eL_989 : q_d mL 989 1 (.iconst 1) 990 := ⟨by decide +kernel, rfl⟩
theorem eL_990 : q_d mL 990 1 (.iadd) 991 := ⟨by decide +kernel, rfl⟩
theorem eL_991 : q_d mL 991 1 (.iaload) 992 := ⟨by decide +kernel, rfl⟩
theorem eL_992 : q_d mL 992 1 (.aload_n 0) 993 := ⟨by decide +kernel, rfl⟩
theorem eL_993 : q_d mL 993 1 (.iload_n 3) 994 := ⟨by decide +kernel, rfl⟩
theorem eL_994 : q_d mL 994 1 (.iconst 2) 995 := ⟨by decide +kernel, rfl⟩
theorem eL_995 : q_d mL 995 1 (.iadd) 996 := ⟨by decide +kernel, rfl⟩
theorem eL_996 : q_d mL 996 1 (.iaload) 997 := ⟨by decide +kernel, rfl⟩
theorem eL_997 : q_d mL 997 1 (.aload_n 0) 998 := ⟨by decide +kernel, rfl⟩
theorem eL_998 : q_d mL 998 1 (.iload_n 3) 999 := ⟨by decide +kernel, rfl⟩
theorem eL_999 : q_d mL 999 1 (.iconst 3) 1000 := ⟨by decide +kernel, rfl⟩
theorem eL_1000 : q_d mL 1000 1 (.iadd) 1001 := ⟨by decide +kernel, rfl⟩
theorem eL_1001 : q_d mL 1001 1 (.iaload) 1002 := ⟨by decide +kernel, rfl⟩
theorem eL_1002 : q_d mL 1002 1 (.aload_n 0) 1003 := ⟨by decide +kernel, rfl⟩
theorem eL_1003 : q_d mL 1003 1 (.iload_n 3) 1004 := ⟨by decide +kernel, rfl⟩
theorem eL_1004 : q_d mL 1004 1 (.iconst 4) 1005 := ⟨by decide +kernel, rfl⟩
theorem eL_1005 : q_d mL 1005 1 (.iadd) 1006 := ⟨by decide +kernel, rfl⟩
theorem eL_1006 : q_d mL 1006 1 (.iaload) 1007 := ⟨by decide +kernel, rfl⟩
theorem eL_1007 : q_d mL 1007 3 (.invokevirtual 111) 1010 := ⟨by decide +kernel, rfl⟩
theorem eL_1010 : q_d mL 1010 3 (.if_icmp .eq 408) 1013 := ⟨by decide +kernel, rfl⟩
theorem eL_1013 : q_d mL 1013 1 (.iconst 0) 1014 := ⟨by decide +kernel, rfl⟩
theorem eL_1014 : q_d mL 1014 1 (.ireturn) 1015 := ⟨by decide +kernel, rfl⟩
theorem eL_1015 : q_d mL 1015 1 (.aload_n 1) 1016 := ⟨by decide +kernel, rfl⟩
theorem eL_1016 : q_d mL 1016 1 (.aload_n 0) 1017 := ⟨by decide +kernel, rfl⟩
theorem eL_1017 : q_d mL 1017 1 (.iload_n 3) 1018 := ⟨by decide +kernel, rfl⟩
theorem eL_1018 : q_d mL 1018 1 (.iconst 1) 1019 := ⟨by decide +kernel, rfl⟩
theorem eL_1019 : q_d mL 1019 1 (.iadd) 1020 := ⟨by decide +kernel, rfl⟩
theorem eL_1020 : q_d mL 1020 1 (.iaload) 1021 := ⟨by decide +kernel, rfl⟩
theorem eL_1021 : q_d mL 1021 1 (.aload_n 0) 1022 := ⟨by decide +kernel, rfl⟩
theorem eL_1022 : q_d mL 1022 1 (.iload_n 3) 1023 := ⟨by decide +kernel, rfl⟩
theorem eL_1023 : q_d mL 1023 1 (.iconst 2) 1024 := ⟨by decide +kernel, rfl⟩
theorem eL_1024 : q_d mL 1024 1 (.iadd) 1025 := ⟨by decide +kernel, rfl⟩
theorem eL_1025 : q_d mL 1025 1 (.iaload) 1026 := ⟨by decide +kernel, rfl⟩
theorem eL_1026 : q_d mL 1026 1 (.aload_n 0) 1027 := ⟨by decide +kernel, rfl⟩
theorem eL_1027 : q_d mL 1027 1 (.iload_n 3) 1028 := ⟨by decide +kernel, rfl⟩
theorem eL_1028 : q_d mL 1028 1 (.iconst 3) 1029 := ⟨by decide +kernel, rfl⟩
theorem eL_1029 : q_d mL 1029 1 (.iadd) 1030 := ⟨by decide +kernel, rfl⟩
theorem eL_1030 : q_d mL 1030 1 (.iaload) 1031 := ⟨by decide +kernel, rfl⟩
theorem eL_1031 : q_d mL 1031 3 (.invokevirtual 112) 1034 := ⟨by decide +kernel, rfl⟩
theorem eL_1034 : q_d mL 1034 1 (.aload_n 2) 1035 := ⟨by decide +kernel, rfl⟩
theorem eL_1035 : q_d mL 1035 1 (.aload_n 0) 1036 := ⟨by decide +kernel, rfl⟩
theorem eL_1036 : q_d mL 1036 1 (.iload_n 3) 1037 := ⟨by decide +kernel, rfl⟩
theorem eL_1037 : q_d mL 1037 1 (.iconst 1) 1038 := ⟨by decide +kernel, rfl⟩
theorem eL_1038 : q_d mL 1038 1 (.iadd) 1039 := ⟨by decide +kernel, rfl⟩
theorem eL_1039 : q_d mL 1039 1 (.iaload) 1040 := ⟨by decide +kernel, rfl⟩
theorem eL_1040 : q_d mL 1040 1 (.aload_n 0) 1041 := ⟨by decide +kernel, rfl⟩
theorem eL_1041 : q_d mL 1041 1 (.iload_n 3) 1042 := ⟨by decide +kernel, rfl⟩
theorem eL_1042 : q_d mL 1042 1 (.iconst 2) 1043 := ⟨by decide +kernel, rfl⟩
theorem eL_1043 : q_d mL 1043 1 (.iadd) 1044 := ⟨by decide +kernel, rfl⟩
theorem eL_1044 : q_d mL 1044 1 (.iaload) 1045 := ⟨by decide +kernel, rfl⟩
theorem eL_1045 : q_d mL 1045 1 (.aload_n 0) 1046 := ⟨by decide +kernel, rfl⟩
theorem eL_1046 : q_d mL 1046 1 (.iload_n 3) 1047 := ⟨by decide +kernel, rfl⟩
theorem eL_1047 : q_d mL 1047 1 (.iconst 3) 1048 := ⟨by decide +kernel, rfl⟩
theorem eL_1048 : q_d mL 1048 1 (.iadd) 1049 := ⟨by decide +kernel, rfl⟩
theorem eL_1049 : q_d mL 1049 1 (.iaload) 1050 := ⟨by decide +kernel, rfl⟩
theorem eL_1050 : q_d mL 1050 3 (.invokevirtual 115) 1053 := ⟨by decide +kernel, rfl⟩
theorem eL_1053 : q_d mL 1053 3 (.if_icmp .eq 365) 1056 := ⟨by decide +kernel, rfl⟩
theorem eL_1056 : q_d mL 1056 1 (.iconst 0) 1057 := ⟨by decide +kernel, rfl⟩
theorem eL_1057 : q_d mL 1057 1 (.ireturn) 1058 := ⟨by decide +kernel, rfl⟩
theorem eL_1058 : q_d mL 1058 1 (.aload_n 1) 1059 := ⟨by decide +kernel, rfl⟩
theorem eL_1059 : q_d mL 1059 1 (.aload_n 0) 1060 := ⟨by decide +kernel, rfl⟩
theorem eL_1060 : q_d mL 1060 1 (.iload_n 3) 1061 := ⟨by decide +kernel, rfl⟩
theorem eL_1061 : q_d mL 1061 1 (.iconst 1) 1062 := ⟨by decide +kernel, rfl⟩
theorem eL_1062 : q_d mL 1062 1 (.iadd) 1063 := ⟨by decide +kernel, rfl⟩
theorem eL_1063 : q_d mL 1063 1 (.iaload) 1064 := ⟨by decide +kernel, rfl⟩
theorem eL_1064 : q_d mL 1064 1 (.aload_n 0) 1065 := ⟨by decide +kernel, rfl⟩
theorem eL_1065 : q_d mL 1065 1 (.iload_n 3) 1066 := ⟨by decide +kernel, rfl⟩
theorem eL_1066 : q_d mL 1066 1 (.iconst 2) 1067 := ⟨by decide +kernel, rfl⟩
theorem eL_1067 : q_d mL 1067 1 (.iadd) 1068 := ⟨by decide +kernel, rfl⟩
theorem eL_1068 : q_d mL 1068 1 (.iaload) 1069 := ⟨by decide +kernel, rfl⟩
theorem eL_1069 : q_d mL 1069 3 (.invokevirtual 116) 1072 := ⟨by decide +kernel, rfl⟩
theorem eL_1072 : q_d mL 1072 1 (.aload_n 2) 1073 := ⟨by decide +kernel, rfl⟩
theorem eL_1073 : q_d mL 1073 1 (.aload_n 0) 1074 := ⟨by decide +kernel, rfl⟩
theorem eL_1074 : q_d mL 1074 1 (.iload_n 3) 1075 := ⟨by decide +kernel, rfl⟩
theorem eL_1075 : q_d mL 1075 1 (.iconst 1) 1076 := ⟨by decide +kernel, rfl⟩
theorem eL_1076 : q_d mL 1076 1 (.iadd) 1077 := ⟨by decide +kernel, rfl⟩
theorem eL_1077 : q_d mL 1077 1 (.iaload) 1078 := ⟨by decide +kernel, rfl⟩
theorem eL_1078 : q_d mL 1078 1 (.aload_n 0) 1079 := ⟨by decide +kernel, rfl⟩
theorem eL_1079 : q_d mL 1079 1 (.iload_n 3) 1080 := ⟨by decide +kernel, rfl⟩
theorem eL_1080 : q_d mL 1080 1 (.iconst 2) 1081 := ⟨by decide +kernel, rfl⟩
theorem eL_1081 : q_d mL 1081 1 (.iadd) 1082 := ⟨by decide +kernel, rfl⟩
theorem eL_1082 : q_d mL 1082 1 (.iaload) 1083 := ⟨by decide +kernel, rfl⟩
theorem eL_1083 : q_d mL 1083 3 (.invokevirtual 119) 1086 := ⟨by decide +kernel, rfl⟩
theorem eL_1086 : q_d mL 1086 3 (.if_icmp .eq 332) 1089 := ⟨by decide +kernel, rfl⟩
theorem eL_1089 : q_d mL 1089 1 (.iconst 0) 1090 := ⟨by decide +kernel, rfl⟩
theorem eL_1090 : q_d mL 1090 1 (.ireturn) 1091 := ⟨by decide +kernel, rfl⟩
theorem eL_1091 : q_d mL 1091 1 (.aload_n 1) 1092 := ⟨by decide +kernel, rfl⟩
theorem eL_1092 : q_d mL 1092 1 (.aload_n 0) 1093 := ⟨by decide +kernel, rfl⟩
theorem eL_1093 : q_d mL 1093 1 (.iload_n 3) 1094 := ⟨by decide +kernel, rfl⟩
theorem eL_1094 : q_d mL 1094 1 (.iconst 1) 1095 := ⟨by decide +kernel, rfl⟩
theorem eL_1095 : q_d mL 1095 1 (.iadd) 1096 := ⟨by decide +kernel, rfl⟩
theorem eL_1096 : q_d mL 1096 1 (.iaload) 1097 := ⟨by decide +kernel, rfl⟩
theorem eL_1097 : q_d mL 1097 1 (.aload_n 0) 1098 := ⟨by decide +kernel, rfl⟩
theorem eL_1098 : q_d mL 1098 1 (.iload_n 3) 1099 := ⟨by decide +kernel, rfl⟩
theorem eL_1099 : q_d mL 1099 1 (.iconst 2) 1100 := ⟨by decide +kernel, rfl⟩
theorem eL_1100 : q_d mL 1100 1 (.iadd) 1101 := ⟨by decide +kernel, rfl⟩
theorem eL_1101 : q_d mL 1101 1 (.iaload) 1102 := ⟨by decide +kernel, rfl⟩
theorem eL_1102 : q_d mL 1102 3 (.invokevirtual 120) 1105 := ⟨by decide +kernel, rfl⟩
theorem eL_1105 : q_d mL 1105 1 (.aload_n 2) 1106 := ⟨by decide +kernel, rfl⟩
theorem eL_1106 : q_d mL 1106 1 (.aload_n 0) 1107 := ⟨by decide +kernel, rfl⟩
theorem eL_1107 : q_d mL 1107 1 (.iload_n 3) 1108 := ⟨by decide +kernel, rfl⟩
theorem eL_1108 : q_d mL 1108 1 (.iconst 1) 1109 := ⟨by decide +kernel, rfl⟩
theorem eL_1109 : q_d mL 1109 1 (.iadd) 1110 := ⟨by decide +kernel, rfl⟩
theorem eL_1110 : q_d mL 1110 1 (.iaload) 1111 := ⟨by decide +kernel, rfl⟩
theorem eL_1111 : q_d mL 1111 1 (.aload_n 0) 1112 := ⟨by decide +kernel, rfl⟩
theorem eL_1112 : q_d mL 1112 1 (.iload_n 3) 1113 := ⟨by decide +kernel, rfl⟩
theorem eL_1113 : q_d mL 1113 1 (.iconst 2) 1114 := ⟨by decide +kernel, rfl⟩
theorem eL_1114 : q_d mL 1114 1 (.iadd) 1115 := ⟨by decide +kernel, rfl⟩
theorem eL_1115 : q_d mL 1115 1 (.iaload) 1116 := ⟨by decide +kernel, rfl⟩
theorem eL_1116 : q_d mL 1116 3 (.invokevirtual 123) 1119 := ⟨by decide +kernel, rfl⟩
theorem eL_1119 : q_d mL 1119 3 (.if_icmp .eq 299) 1122 := ⟨by decide +kernel, rfl⟩
theorem eL_1122 : q_d mL 1122 1 (.iconst 0) 1123 := ⟨by decide +kernel, rfl⟩
theorem eL_1123 : q_d mL 1123 1 (.ireturn) 1124 := ⟨by decide +kernel, rfl⟩
theorem eL_1124 : q_d mL 1124 1 (.aload_n 1) 1125 := ⟨by decide +kernel, rfl⟩
theorem eL_1125 : q_d mL 1125 1 (.aload_n 0) 1126 := ⟨by decide +kernel, rfl⟩
theorem eL_1126 : q_d mL 1126 1 (.iload_n 3) 1127 := ⟨by decide +kernel, rfl⟩
theorem eL_1127 : q_d mL 1127 1 (.iconst 1) 1128 := ⟨by decide +kernel, rfl⟩
theorem eL_1128 : q_d mL 1128 1 (.iadd) 1129 := ⟨by decide +kernel, rfl⟩
theorem eL_1129 : q_d mL 1129 1 (.iaload) 1130 := ⟨by decide +kernel, rfl⟩
theorem eL_1130 : q_d mL 1130 1 (.aload_n 0) 1131 := ⟨by decide +kernel, rfl⟩
theorem eL_1131 : q_d mL 1131 1 (.iload_n 3) 1132 := ⟨by decide +kernel, rfl⟩
theorem eL_1132 : q_d mL 1132 1 (.iconst 2) 1133 := ⟨by decide +kernel, rfl⟩
theorem eL_1133 : q_d mL 1133 1 (.iadd) 1134 := ⟨by decide +kernel, rfl⟩
theorem eL_1134 : q_d mL 1134 1 (.iaload) 1135 := ⟨by decide +kernel, rfl⟩
theorem eL_1135 : q_d mL 1135 1 (.aload_n 0) 1136 := ⟨by decide +kernel, rfl⟩
theorem eL_1136 : q_d mL 1136 1 (.iload_n 3) 1137 := ⟨by decide +kernel, rfl⟩
theorem eL_1137 : q_d mL 1137 1 (.iconst 3) 1138 := ⟨by decide +kernel, rfl⟩
theorem eL_1138 : q_d mL 1138 1 (.iadd) 1139 := ⟨by decide +kernel, rfl⟩
theorem eL_1139 : q_d mL 1139 1 (.iaload) 1140 := ⟨by decide +kernel, rfl⟩
theorem eL_1140 : q_d mL 1140 1 (.aload_n 0) 1141 := ⟨by decide +kernel, rfl⟩
theorem eL_1141 : q_d mL 1141 1 (.iload_n 3) 1142 := ⟨by decide +kernel, rfl⟩
theorem eL_1142 : q_d mL 1142 1 (.iconst 4) 1143 := ⟨by decide +kernel, rfl⟩
theorem eL_1143 : q_d mL 1143 1 (.iadd) 1144 := ⟨by decide +kernel, rfl⟩
theorem eL_1144 : q_d mL 1144 1 (.iaload) 1145 := ⟨by decide +kernel, rfl⟩
theorem eL_1145 : q_d mL 1145 3 (.invokevirtual 124) 1148 := ⟨by decide +kernel, rfl⟩
theorem eL_1148 : q_d mL 1148 1 (.aload_n 2) 1149 := ⟨by decide +kernel, rfl⟩
theorem eL_1149 : q_d mL 1149 1 (.aload_n 0) 1150 := ⟨by decide +kernel, rfl⟩
theorem eL_1150 : q_d mL 1150 1 (.iload_n 3) 1151 := ⟨by decide +kernel, rfl⟩
theorem eL_1151 : q_d mL 1151 1 (.iconst 1) 1152 := ⟨by decide +kernel, rfl⟩
theorem eL_1152 : q_d mL 1152 1 (.iadd) 1153 := ⟨by decide +kernel, rfl⟩
theorem eL_1153 : q_d mL 1153 1 (.iaload) 1154 := ⟨by decide +kernel, rfl⟩
theorem eL_1154 : q_d mL 1154 1 (.aload_n 0) 1155 := ⟨by decide +kernel, rfl⟩
theorem eL_1155 : q_d mL 1155 1 (.iload_n 3) 1156 := ⟨by decide +kernel, rfl⟩
theorem eL_1156 : q_d mL 1156 1 (.iconst 2) 1157 := ⟨by decide +kernel, rfl⟩
theorem eL_1157 : q_d mL 1157 1 (.iadd) 1158 := ⟨by decide +kernel, rfl⟩
theorem eL_1158 : q_d mL 1158 1 (.iaload) 1159 := ⟨by decide +kernel, rfl⟩
theorem eL_1159 : q_d mL 1159 1 (.aload_n 0) 1160 := ⟨by decide +kernel, rfl⟩
theorem eL_1160 : q_d mL 1160 1 (.iload_n 3) 1161 := ⟨by decide +kernel, rfl⟩
theorem eL_1161 : q_d mL 1161 1 (.iconst 3) 1162 := ⟨by decide +kernel, rfl⟩
theorem eL_1162 : q_d mL 1162 1 (.iadd) 1163 := ⟨by decide +kernel, rfl⟩
theorem eL_1163 : q_d mL 1163 1 (.iaload) 1164 := ⟨by decide +kernel, rfl⟩
theorem eL_1164 : q_d mL 1164 1 (.aload_n 0) 1165 := ⟨by decide +kernel, rfl⟩
theorem eL_1165 : q_d mL 1165 1 (.iload_n 3) 1166 := ⟨by decide +kernel, rfl⟩
theorem eL_1166 : q_d mL 1166 1 (.iconst 4) 1167 := ⟨by decide +kernel, rfl⟩
theorem eL_1167 : q_d mL 1167 1 (.iadd) 1168 := ⟨by decide +kernel, rfl⟩
theorem eL_1168 : q_d mL 1168 1 (.iaload) 1169 := ⟨by decide +kernel, rfl⟩
theorem eL_1169 : q_d mL 1169 3 (.invokevirtual 127) 1172 := ⟨by decide +kernel, rfl⟩
theorem eL_1172 : q_d mL 1172 3 (.if_icmp .eq 246) 1175 := ⟨by decide +kernel, rfl⟩
theorem eL_1175 : q_d mL 1175 1 (.iconst 0) 1176 := ⟨by decide +kernel, rfl⟩
theorem eL_1176 : q_d mL 1176 1 (.ireturn) 1177 := ⟨by decide +kernel, rfl⟩
theorem eL_1177 : q_d mL 1177 1 (.aload_n 1) 1178 := ⟨by decide +kernel, rfl⟩
theorem eL_1178 : q_d mL 1178 1 (.aload_n 0) 1179 := ⟨by decide +kernel, rfl⟩
theorem eL_1179 : q_d mL 1179 1 (.iload_n 3) 1180 := ⟨by decide +kernel, rfl⟩
theorem eL_1180 : q_d mL 1180 1 (.iconst 1) 1181 := ⟨by decide +kernel, rfl⟩
theorem eL_1181 : q_d mL 1181 1 (.iadd) 1182 := ⟨by decide +kernel, rfl⟩
theorem eL_1182 : q_d mL 1182 1 (.iaload) 1183 := ⟨by decide +kernel, rfl⟩
theorem eL_1183 : q_d mL 1183 1 (.aload_n 0) 1184 := ⟨by decide +kernel, rfl⟩
theorem eL_1184 : q_d mL 1184 1 (.iload_n 3) 1185 := ⟨by decide +kernel, rfl⟩
theorem eL_1185 : q_d mL 1185 1 (.iconst 2) 1186 := ⟨by decide +kernel, rfl⟩
theorem eL_1186 : q_d mL 1186 1 (.iadd) 1187 := ⟨by decide +kernel, rfl⟩
theorem eL_1187 : q_d mL 1187 1 (.iaload) 1188 := ⟨by decide +kernel, rfl⟩
theorem eL_1188 : q_d mL 1188 1 (.aload_n 0) 1189 := ⟨by decide +kernel, rfl⟩
theorem eL_1189 : q_d mL 1189 1 (.iload_n 3) 1190 := ⟨by decide +kernel, rfl⟩
theorem eL_1190 : q_d mL 1190 1 (.iconst 3) 1191 := ⟨by decide +kernel, rfl⟩
theorem eL_1191 : q_d mL 1191 1 (.iadd) 1192 := ⟨by decide +kernel, rfl⟩
theorem eL_1192 : q_d mL 1192 1 (.iaload) 1193 := ⟨by decide +kernel, rfl⟩
theorem eL_1193 : q_d mL 1193 3 (.invokevirtual 128) 1196 := ⟨by decide +kernel, rfl⟩
theorem eL_1196 : q_d mL 1196 1 (.aload_n 2) 1197 := ⟨by decide +kernel, rfl⟩
theorem eL_1197 : q_d mL 1197 1 (.aload_n 0) 1198 := ⟨by decide +kernel, rfl⟩
theorem eL_1198 : q_d mL 1198 1 (.iload_n 3) 1199 := ⟨by decide +kernel, rfl⟩
theorem eL_1199 : q_d mL 1199 1 (.iconst 1) 1200 := ⟨by decide +kernel, rfl⟩
theorem eL_1200 : q_d mL 1200 1 (.iadd) 1201 := ⟨by decide +kernel, rfl⟩
theorem eL_1201 : q_d mL 1201 1 (.iaload) 1202 := ⟨by decide +kernel, rfl⟩
theorem eL_1202 : q_d mL 1202 1 (.aload_n 0) 1203 := ⟨by decide +kernel, rfl⟩
theorem eL_1203 : q_d mL 1203 1 (.iload_n 3) 1204 := ⟨by decide +kernel, rfl⟩
theorem eL_1204 : q_d mL 1204 1 (.iconst 2) 1205 := ⟨by decide +kernel, rfl⟩
theorem eL_1205 : q_d mL 1205 1 (.iadd) 1206 := ⟨by decide +kernel, rfl⟩
theorem eL_1206 : q_d mL 1206 1 (.iaload) 1207 := ⟨by decide +kernel, rfl⟩
theorem eL_1207 : q_d mL 1207 1 (.aload_n 0) 1208 := ⟨by decide +kernel, rfl⟩
theorem eL_1208 : q_d mL 1208 1 (.iload_n 3) 1209 := ⟨by decide +kernel, rfl⟩
theorem eL_1209 : q_d mL 1209 1 (.iconst 3) 1210 := ⟨by decide +kernel, rfl⟩
theorem eL_1210 : q_d mL 1210 1 (.iadd) 1211 := ⟨by decide +kernel, rfl⟩
theorem eL_1211 : q_d mL 1211 1 (.iaload) 1212 := ⟨by decide +kernel, rfl⟩
theorem eL_1212 : q_d mL 1212 3 (.invokevirtual 131) 1215 := ⟨by decide +kernel, rfl⟩
theorem eL_1215 : q_d mL 1215 3 (.if_icmp .eq 203) 1218 := ⟨by decide +kernel, rfl⟩
theorem eL_1218 : q_d mL 1218 1 (.iconst 0) 1219 := ⟨by decide +kernel, rfl⟩
theorem eL_1219 : q_d mL 1219 1 (.ireturn) 1220 := ⟨by decide +kernel, rfl⟩
theorem eL_1220 : q_d mL 1220 1 (.aload_n 1) 1221 := ⟨by decide +kernel, rfl⟩
theorem eL_1221 : q_d mL 1221 1 (.aload_n 0) 1222 := ⟨by decide +kernel, rfl⟩
theorem eL_1222 : q_d mL 1222 1 (.iload_n 3) 1223 := ⟨by decide +kernel, rfl⟩
theorem eL_1223 : q_d mL 1223 1 (.iconst 1) 1224 := ⟨by decide +kernel, rfl⟩
theorem eL_1224 : q_d mL 1224 1 (.iadd) 1225 := ⟨by decide +kernel, rfl⟩
theorem eL_1225 : q_d mL 1225 1 (.iaload) 1226 := ⟨by decide +kernel, rfl⟩
theorem eL_1226 : q_d mL 1226 1 (.aload_n 0) 1227 := ⟨by decide +kernel, rfl⟩
theorem eL_1227 : q_d mL 1227 1 (.iload_n 3) 1228 := ⟨by decide +kernel, rfl⟩
theorem eL_1228 : q_d mL 1228 1 (.iconst 2) 1229 := ⟨by decide +kernel, rfl⟩
theorem eL_1229 : q_d mL 1229 1 (.iadd) 1230 := ⟨by decide +kernel, rfl⟩
theorem eL_1230 : q_d mL 1230 1 (.iaload) 1231 := ⟨by decide +kernel, rfl⟩
theorem eL_1231 : q_d mL 1231 1 (.aload_n 0) 1232 := ⟨by decide +kernel, rfl⟩
theorem eL_1232 : q_d mL 1232 1 (.iload_n 3) 1233 := ⟨by decide +kernel, rfl⟩
theorem eL_1233 : q_d mL 1233 1 (.iconst 3) 1234 := ⟨by decide +kernel, rfl⟩
theorem eL_1234 : q_d mL 1234 1 (.iadd) 1235 := ⟨by decide +kernel, rfl⟩
theorem eL_1235 : q_d mL 1235 1 (.iaload) 1236 := ⟨by decide +kernel, rfl⟩
theorem eL_1236 : q_d mL 1236 3 (.invokevirtual 132) 1239 := ⟨by decide +kernel, rfl⟩
theorem eL_1239 : q_d mL 1239 1 (.aload_n 2) 1240 := ⟨by decide +kernel, rfl⟩
theorem eL_1240 : q_d mL 1240 1 (.aload_n 0) 1241 := ⟨by decide +kernel, rfl⟩
theorem eL_1241 : q_d mL 1241 1 (.iload_n 3) 1242 := ⟨by decide +kernel, rfl⟩
theorem eL_1242 : q_d mL 1242 1 (.iconst 1) 1243 := ⟨by decide +kernel, rfl⟩
theorem eL_1243 : q_d mL 1243 1 (.iadd) 1244 := ⟨by decide +kernel, rfl⟩
theorem eL_1244 : q_d mL 1244 1 (.iaload) 1245 := ⟨by decide +kernel, rfl⟩
theorem eL_1245 : q_d mL 1245 1 (.aload_n 0) 1246 := ⟨by decide +kernel, rfl⟩
theorem eL_1246 : q_d mL 1246 1 (.iload_n 3) 1247 := ⟨by decide +kernel, rfl⟩
theorem eL_1247 : q_d mL 1247 1 (.iconst 2) 1248 := ⟨by decide +kernel, rfl⟩
theorem eL_1248 : q_d mL 1248 1 (.iadd) 1249 := ⟨by decide +kernel, rfl⟩
theorem eL_1249 : q_d mL 1249 1 (.iaload) 1250 := ⟨by decide +kernel, rfl⟩
theorem eL_1250 : q_d mL 1250 1 (.aload_n 0) 1251 := ⟨by decide +kernel, rfl⟩
theorem eL_1251 : q_d mL 1251 1 (.iload_n 3) 1252 := ⟨by decide +kernel, rfl⟩
theorem eL_1252 : q_d mL 1252 1 (.iconst 3) 1253 := ⟨by decide +kernel, rfl⟩
theorem eL_1253 : q_d mL 1253 1 (.iadd) 1254 := ⟨by decide +kernel, rfl⟩
theorem eL_1254 : q_d mL 1254 1 (.iaload) 1255 := ⟨by decide +kernel, rfl⟩
theorem eL_1255 : q_d mL 1255 3 (.invokevirtual 135) 1258 := ⟨by decide +kernel, rfl⟩
theorem eL_1258 : q_d mL 1258 3 (.if_icmp .eq 160) 1261 := ⟨by decide +kernel, rfl⟩
theorem eL_1261 : q_d mL 1261 1 (.iconst 0) 1262 := ⟨by decide +kernel, rfl⟩
theorem eL_1262 : q_d mL 1262 1 (.ireturn) 1263 := ⟨by decide +kernel, rfl⟩
theorem eL_1263 : q_d mL 1263 1 (.aload_n 1) 1264 := ⟨by decide +kernel, rfl⟩
theorem eL_1264 : q_d mL 1264 1 (.aload_n 0) 1265 := ⟨by decide +kernel, rfl⟩
theorem eL_1265 : q_d mL 1265 1 (.iload_n 3) 1266 := ⟨by decide +kernel, rfl⟩
theorem eL_1266 : q_d mL 1266 1 (.iconst 1) 1267 := ⟨by decide +kernel, rfl⟩
theorem eL_1267 : q_d mL 1267 1 (.iadd) 1268 := ⟨by decide +kernel, rfl⟩
theorem eL_1268 : q_d mL 1268 1 (.iaload) 1269 := ⟨by decide +kernel, rfl⟩
theorem eL_1269 : q_d mL 1269 1 (.aload_n 0) 1270 := ⟨by decide +kernel, rfl⟩
theorem eL_1270 : q_d mL 1270 1 (.iload_n 3) 1271 := ⟨by decide +kernel, rfl⟩
theorem eL_1271 : q_d mL 1271 1 (.iconst 2) 1272 := ⟨by decide +kernel, rfl⟩
theorem eL_1272 : q_d mL 1272 1 (.iadd) 1273 := ⟨by decide +kernel, rfl⟩
theorem eL_1273 : q_d mL 1273 1 (.iaload) 1274 := ⟨by decide +kernel, rfl⟩
theorem eL_1274 : q_d mL 1274 3 (.invokevirtual 136) 1277 := ⟨by decide +kernel, rfl⟩
theorem eL_1277 : q_d mL 1277 1 (.aload_n 2) 1278 := ⟨by decide +kernel, rfl⟩
theorem eL_1278 : q_d mL 1278 1 (.aload_n 0) 1279 := ⟨by decide +kernel, rfl⟩
theorem eL_1279 : q_d mL 1279 1 (.iload_n 3) 1280 := ⟨by decide +kernel, rfl⟩
theorem eL_1280 : q_d mL 1280 1 (.iconst 1) 1281 := ⟨by decide +kernel, rfl⟩
theorem eL_1281 : q_d mL 1281 1 (.iadd) 1282 := ⟨by decide +kernel, rfl⟩
theorem eL_1282 : q_d mL 1282 1 (.iaload) 1283 := ⟨by decide +kernel, rfl⟩
theorem eL_1283 : q_d mL 1283 1 (.aload_n 0) 1284 := ⟨by decide +kernel, rfl⟩
theorem eL_1284 : q_d mL 1284 1 (.iload_n 3) 1285 := ⟨by decide +kernel, rfl⟩
theorem eL_1285 : q_d mL 1285 1 (.iconst 2) 1286 := ⟨by decide +kernel, rfl⟩
theorem eL_1286 : q_d mL 1286 1 (.iadd) 1287 := ⟨by decide +kernel, rfl⟩
theorem eL_1287 : q_d mL 1287 1 (.iaload) 1288 := ⟨by decide +kernel, rfl⟩
theorem eL_1288 : q_d mL 1288 3 (.invokevirtual 139) 1291 := ⟨by decide +kernel, rfl⟩
theorem eL_1291 : q_d mL 1291 3 (.if_icmp .eq 127) 1294 := ⟨by decide +kernel, rfl⟩
theorem eL_1294 : q_d mL 1294 1 (.iconst 0) 1295 := ⟨by decide +kernel, rfl⟩
theorem eL_1295 : q_d mL 1295 1 (.ireturn) 1296 := ⟨by decide +kernel, rfl⟩
theorem eL_1296 : q_d mL 1296 1 (.aload_n 1) 1297 := ⟨by decide +kernel, rfl⟩
theorem eL_1297 : q_d mL 1297 1 (.aload_n 0) 1298 := ⟨by decide +kernel, rfl⟩
theorem eL_1298 : q_d mL 1298 1 (.iload_n 3) 1299 := ⟨by decide +kernel, rfl⟩
theorem eL_1299 : q_d mL 1299 1 (.iconst 1) 1300 := ⟨by decide +kernel, rfl⟩
theorem eL_1300 : q_d mL 1300 1 (.iadd) 1301 := ⟨by decide +kernel, rfl⟩
theorem eL_1301 : q_d mL 1301 1 (.iaload) 1302 := ⟨by decide +kernel, rfl⟩
theorem eL_1302 : q_d mL 1302 1 (.aload_n 0) 1303 := ⟨by decide +kernel, rfl⟩
theorem eL_1303 : q_d mL 1303 1 (.iload_n 3) 1304 := ⟨by decide +kernel, rfl⟩
theorem eL_1304 : q_d mL 1304 1 (.iconst 2) 1305 := ⟨by decide +kernel, rfl⟩
theorem eL_1305 : q_d mL 1305 1 (.iadd) 1306 := ⟨by decide +kernel, rfl⟩
theorem eL_1306 : q_d mL 1306 1 (.iaload) 1307 := ⟨by decide +kernel, rfl⟩
theorem eL_1307 : q_d mL 1307 3 (.invokevirtual 140) 1310 := ⟨by decide +kernel, rfl⟩
theorem eL_1310 : q_d mL 1310 1 (.aload_n 2) 1311 := ⟨by decide +kernel, rfl⟩
theorem eL_1311 : q_d mL 1311 1 (.aload_n 0) 1312 := ⟨by decide +kernel, rfl⟩
theorem eL_1312 : q_d mL 1312 1 (.iload_n 3) 1313 := ⟨by decide +kernel, rfl⟩
theorem eL_1313 : q_d mL 1313 1 (.iconst 1) 1314 := ⟨by decide +kernel, rfl⟩
theorem eL_1314 : q_d mL 1314 1 (.iadd) 1315 := ⟨by decide +kernel, rfl⟩
theorem eL_1315 : q_d mL 1315 1 (.iaload) 1316 := ⟨by decide +kernel, rfl⟩
theorem eL_1316 : q_d mL 1316 1 (.aload_n 0) 1317 := ⟨by decide +kernel, rfl⟩
theorem eL_1317 : q_d mL 1317 1 (.iload_n 3) 1318 := ⟨by decide +kernel, rfl⟩
theorem eL_1318 : q_d mL 1318 1 (.iconst 2) 1319 := ⟨by decide +kernel, rfl⟩
theorem eL_1319 : q_d mL 1319 1 (.iadd) 1320 := ⟨by decide +kernel, rfl⟩
theorem eL_1320 : q_d mL 1320 1 (.iaload) 1321 := ⟨by decide +kernel, rfl⟩
theorem eL_1321 : q_d mL 1321 3 (.invokevirtual 143) 1324 := ⟨by decide +kernel, rfl⟩
theorem eL_1324 : q_d mL 1324 3 (.if_icmp .eq 94) 1327 := ⟨by decide +kernel, rfl⟩
theorem eL_1327 : q_d mL 1327 1 (.iconst 0) 1328 := ⟨by decide +kernel, rfl⟩
theorem eL_1328 : q_d mL 1328 1 (.ireturn) 1329 := ⟨by decide +kernel, rfl⟩
theorem eL_1329 : q_d mL 1329 1 (.aload_n 1) 1330 := ⟨by decide +kernel, rfl⟩
theorem eL_1330 : q_d mL 1330 1 (.aload_n 0) 1331 := ⟨by decide +kernel, rfl⟩
theorem eL_1331 : q_d mL 1331 1 (.iload_n 3) 1332 := ⟨by decide +kernel, rfl⟩
theorem eL_1332 : q_d mL 1332 1 (.iconst 1) 1333 := ⟨by decide +kernel, rfl⟩
theorem eL_1333 : q_d mL 1333 1 (.iadd) 1334 := ⟨by decide +kernel, rfl⟩
theorem eL_1334 : q_d mL 1334 1 (.iaload) 1335 := ⟨by decide +kernel, rfl⟩
theorem eL_1335 : q_d mL 1335 1 (.aload_n 0) 1336 := ⟨by decide +kernel, rfl⟩
theorem eL_1336 : q_d mL 1336 1 (.iload_n 3) 1337 := ⟨by decide +kernel, rfl⟩
theorem eL_1337 : q_d mL 1337 1 (.iconst 2) 1338 := ⟨by decide +kernel, rfl⟩
theorem eL_1338 : q_d mL 1338 1 (.iadd) 1339 := ⟨by decide +kernel, rfl⟩
theorem eL_1339 : q_d mL 1339 1 (.iaload) 1340 := ⟨by decide +kernel, rfl⟩
theorem eL_1340 : q_d mL 1340 1 (.aload_n 0) 1341 := ⟨by decide +kernel, rfl⟩
theorem eL_1341 : q_d mL 1341 1 (.iload_n 3) 1342 := ⟨by decide +kernel, rfl⟩
theorem eL_1342 : q_d mL 1342 1 (.iconst 3) 1343 := ⟨by decide +kernel, rfl⟩
theorem eL_1343 : q_d mL 1343 1 (.iadd) 1344 := ⟨by decide +kernel, rfl⟩
theorem eL_1344 : q_d mL 1344 1 (.iaload) 1345 := ⟨by decide +kernel, rfl⟩
theorem eL_1345 : q_d mL 1345 3 (.invokevirtual 144) 1348 := ⟨by decide +kernel, rfl⟩
theorem eL_1348 : q_d mL 1348 1 (.aload_n 2) 1349 := ⟨by decide +kernel, rfl⟩
theorem eL_1349 : q_d mL 1349 1 (.aload_n 0) 1350 := ⟨by decide +kernel, rfl⟩
theorem eL_1350 : q_d mL 1350 1 (.iload_n 3) 1351 := ⟨by decide +kernel, rfl⟩
theorem eL_1351 : q_d mL 1351 1 (.iconst 1) 1352 := ⟨by decide +kernel, rfl⟩
theorem eL_1352 : q_d mL 1352 1 (.iadd) 1353 := ⟨by decide +kernel, rfl⟩
theorem eL_1353 : q_d mL 1353 1 (.iaload) 1354 := ⟨by decide +kernel, rfl⟩
theorem eL_1354 : q_d mL 1354 1 (.aload_n 0) 1355 := ⟨by decide +kernel, rfl⟩
theorem eL_1355 : q_d mL 1355 1 (.iload_n 3) 1356 := ⟨by decide +kernel, rfl⟩
theorem eL_1356 : q_d mL 1356 1 (.iconst 2) 1357 := ⟨by decide +kernel, rfl⟩
theorem eL_1357 : q_d mL 1357 1 (.iadd) 1358 := ⟨by decide +kernel, rfl⟩
theorem eL_1358 : q_d mL 1358 1 (.iaload) 1359 := ⟨by decide +kernel, rfl⟩
theorem eL_1359 : q_d mL 1359 1 (.aload_n 0) 1360 := ⟨by decide +kernel, rfl⟩
theorem eL_1360 : q_d mL 1360 1 (.iload_n 3) 1361 := ⟨by decide +kernel, rfl⟩
theorem eL_1361 : q_d mL 1361 1 (.iconst 3) 1362 := ⟨by decide +kernel, rfl⟩
theorem eL_1362 : q_d mL 1362 1 (.iadd) 1363 := ⟨by decide +kernel, rfl⟩
theorem eL_1363 : q_d mL 1363 1 (.iaload) 1364 := ⟨by decide +kernel, rfl⟩
theorem eL_1364 : q_d mL 1364 3 (.invokevirtual 147) 1367 := ⟨by decide +kernel, rfl⟩
theorem eL_1367 : q_d mL 1367 3 (.if_icmp .eq 51) 1370 := ⟨by decide +kernel, rfl⟩
theorem eL_1370 : q_d mL 1370 1 (.iconst 0) 1371 := ⟨by decide +kernel, rfl⟩
theorem eL_1371 : q_d mL 1371 1 (.ireturn) 1372 := ⟨by decide +kernel, rfl⟩
theorem eL_1372 : q_d mL 1372 1 (.aload_n 1) 1373 := ⟨by decide +kernel, rfl⟩
theorem eL_1373 : q_d mL 1373 1 (.aload_n 0) 1374 := ⟨by decide +kernel, rfl⟩
theorem eL_1374 : q_d mL 1374 1 (.iload_n 3) 1375 := ⟨by decide +kernel, rfl⟩
theorem eL_1375 : q_d mL 1375 1 (.iconst 1) 1376 := ⟨by decide +kernel, rfl⟩
theorem eL_1376 : q_d mL 1376 1 (.iadd) 1377 := ⟨by decide +kernel, rfl⟩
theorem eL_1377 : q_d mL 1377 1 (.iaload) 1378 := ⟨by decide +kernel, rfl⟩
theorem eL_1378 : q_d mL 1378 3 (.invokevirtual 148) 1381 := ⟨by decide +kernel, rfl⟩
theorem eL_1381 : q_d mL 1381 1 (.aload_n 2) 1382 := ⟨by decide +kernel, rfl⟩
theorem eL_1382 : q_d mL 1382 1 (.aload_n 0) 1383 := ⟨by decide +kernel, rfl⟩
theorem eL_1383 : q_d mL 1383 1 (.iload_n 3) 1384 := ⟨by decide +kernel, rfl⟩
theorem eL_1384 : q_d mL 1384 1 (.iconst 1) 1385 := ⟨by decide +kernel, rfl⟩
theorem eL_1385 : q_d mL 1385 1 (.iadd) 1386 := ⟨by decide +kernel, rfl⟩
theorem eL_1386 : q_d mL 1386 1 (.iaload) 1387 := ⟨by decide +kernel, rfl⟩
theorem eL_1387 : q_d mL 1387 3 (.invokevirtual 151) 1390 := ⟨by decide +kernel, rfl⟩
theorem eL_1390 : q_d mL 1390 3 (.if_icmp .eq 28) 1393 := ⟨by decide +kernel, rfl⟩
theorem eL_1393 : q_d mL 1393 1 (.iconst 0) 1394 := ⟨by decide +kernel, rfl⟩
theorem eL_1394 : q_d mL 1394 1 (.ireturn) 1395 := ⟨by decide +kernel, rfl⟩
theorem eL_1395 : q_d mL 1395 1 (.aload_n 1) 1396 := ⟨by decide +kernel, rfl⟩
theorem eL_1396 : q_d mL 1396 1 (.aload_n 0) 1397 := ⟨by decide +kernel, rfl⟩
theorem eL_1397 : q_d mL 1397 1 (.iload_n 3) 1398 := ⟨by decide +kernel, rfl⟩
theorem eL_1398 : q_d mL 1398 1 (.iconst 1) 1399 := ⟨by decide +kernel, rfl⟩
theorem eL_1399 : q_d mL 1399 1 (.iadd) 1400 := ⟨by decide +kernel, rfl⟩
theorem eL_1400 : q_d mL 1400 1 (.iaload) 1401 := ⟨by decide +kernel, rfl⟩
theorem eL_1401 : q_d mL 1401 3 (.invokevirtual 152) 1404 := ⟨by decide +kernel, rfl⟩
theorem eL_1404 : q_d mL 1404 1 (.aload_n 2) 1405 := ⟨by decide +kernel, rfl⟩
theorem eL_1405 : q_d mL 1405 1 (.aload_n 0) 1406 := ⟨by decide +kernel, rfl⟩
theorem eL_1406 : q_d mL 1406 1 (.iload_n 3) 1407 := ⟨by decide +kernel, rfl⟩
theorem eL_1407 : q_d mL 1407 1 (.iconst 1) 1408 := ⟨by decide +kernel, rfl⟩
theorem eL_1408 : q_d mL 1408 1 (.iadd) 1409 := ⟨by decide +kernel, rfl⟩
theorem eL_1409 : q_d mL 1409 1 (.iaload) 1410 := ⟨by decide +kernel, rfl⟩
theorem eL_1410 : q_d mL 1410 3 (.invokevirtual 155) 1413 := ⟨by decide +kernel, rfl⟩
theorem eL_1413 : q_d mL 1413 3 (.if_icmp .eq 5) 1416 := ⟨by decide +kernel, rfl⟩
theorem eL_1416 : q_d mL 1416 1 (.iconst 0) 1417 := ⟨by decide +kernel, rfl⟩
theorem eL_1417 : q_d mL 1417 1 (.ireturn) 1418 := ⟨by decide +kernel, rfl⟩
theorem eL_1418 : q_d mL 1418 3 (.iinc 3 7) 1421 := ⟨by decide +kernel, rfl⟩
theorem eL_1421 : q_d mL 1421 3 (.goto (-1403)) 1424 := ⟨by decide +kernel, rfl⟩
theorem eL_1424 : q_d mL 1424 1 (.iconst 1) 1425 := ⟨by decide +kernel, rfl⟩
theorem eL_1425 : q_d mL 1425 1 (.ireturn) 1426 := ⟨by decide +kernel, rfl⟩
theorem tb_554 : Cond.methodLink R_law 13 mX10_feed.2.1 ∈ q_tb := ch_2 _ (List.mem_of_getElem? (i := 191) rfl) rfl
theorem tb_555 : Cond.instanceMethod mX10_feed.2.1 ∈ q_tb := ch_2 _ (List.mem_of_getElem? (i := 192) rfl) rfl
theorem tb_556 : Cond.selects mX10_feed.2.1.cls mX10_feed.2.1 mX10_feed.2.1 ∈ q_tb := ch_2 _ (List.mem_of_getElem? (i := 193) rfl) rfl
theorem tb_557 : Cond.code mX10_feed.2.1 mX10_feed.2.2.1 mX10_feed.2.2.2.1 mX10_feed.2.2.2.2 ∈ q_tb := ch_2 _ (List.mem_of_getElem? (i := 194) rfl) rfl
theorem cv_L_13 : q_CV R_law 13 mX10_feed 5 := ⟨tb_554, tb_555, tb_556, tb_124, tb_557, ⟨by decide +kernel, by decide +kernel, by decide +kernel⟩, by decide⟩
theorem tb_1627 : Cond.methodLink R_law 17 mX11_feed.2.1 ∈ q_tb := ch_7 _ (List.mem_of_getElem? (i := 64) rfl) rfl
theorem tb_1628 : Cond.instanceMethod mX11_feed.2.1 ∈ q_tb := ch_7 _ (List.mem_of_getElem? (i := 65) rfl) rfl
theorem tb_1629 : Cond.selects mX11_feed.2.1.cls mX11_feed.2.1 mX11_feed.2.1 ∈ q_tb := ch_7 _ (List.mem_of_getElem? (i := 66) rfl) rfl
theorem tb_1630 : Cond.code mX11_feed.2.1 mX11_feed.2.2.1 mX11_feed.2.2.2.1 mX11_feed.2.2.2.2 ∈ q_tb := ch_7 _ (List.mem_of_getElem? (i := 67) rfl) rfl
theorem cv_L_17 : q_CV R_law 17 mX11_feed 5 := ⟨tb_1627, tb_1628, tb_1629, tb_140, tb_1630, ⟨by decide +kernel, by decide +kernel, by decide +kernel⟩, by decide⟩
def q_sim_feed (I : q_W → q_W → Prop) : Prop := ∀ (a1 a2 a3 a4 a5 : Int32) (u v : q_W), I u v → ∃ (r : Int32) (u1 v1 : q_W), fX10_feed a1 a2 a3 a4 a5 u = some (r, u1) ∧ fX11_feed a1 a2 a3 a4 a5 v = some (r, v1) ∧ I u1 v1
theorem law_0 (l : Launch) (X Y : q_X) (b L k : Nat) (xs : Nat → Int32) (I : q_W → q_W → Prop) (u v : q_W) (hsim : q_sim_feed I) (hI : I u v) (hin1 : vp_in (nI k + 1) L) (hin2 : vp_in (nI k + 2) L) (hin3 : vp_in (nI k + 3) L) (hin4 : vp_in (nI k + 4) L) (hin5 : vp_in (nI k + 5) L) (hin6 : vp_in (nI k + 6) L) (kk : ∀ u1 v1, I u1 v1 → q_LJ l X Y b L xs 1418 [(3, .int (nI k)), (0, .ref b), (1, .ref (X.2.2 0)), (2, .ref (Y.2.2 0))] [] u1 v1) : q_LJ l X Y b L xs 184 [(3, .int (nI k)), (0, .ref b), (1, .ref (X.2.2 0)), (2, .ref (Y.2.2 0))] [] u v := by
  obtain ⟨r, u1, v1, hc, hr, hI1⟩ := hsim (xs (nI k + 1).toNatClampNeg) (xs (nI k + 2).toNatClampNeg) (xs (nI k + 3).toNatClampNeg) (xs (nI k + 4).toNatClampNeg) (xs (nI k + 5).toNatClampNeg) u v hI
  refine q_Laload_n 2 eL_184 rfl rfl ?_
  refine q_Laload_n 1 eL_185 rfl rfl ?_
  refine q_Liload_n 0 eL_186 rfl rfl ?_
  refine q_Liconst (a := 1) eL_187 kiconst_1 ?_
  refine q_Liadd eL_188 ?_
  refine q_Lsld eL_189 hin1 ?_
  refine q_Laload_n 1 eL_190 rfl rfl ?_
  refine q_Liload_n 0 eL_191 rfl rfl ?_
  refine q_Liconst (a := 2) eL_192 kiconst_2 ?_
  refine q_Liadd eL_193 ?_
  refine q_Lsld eL_194 hin2 ?_
  refine q_Laload_n 1 eL_195 rfl rfl ?_
  refine q_Liload_n 0 eL_196 rfl rfl ?_
  refine q_Liconst (a := 3) eL_197 kiconst_3 ?_
  refine q_Liadd eL_198 ?_
  refine q_Lsld eL_199 hin3 ?_
  refine q_Laload_n 1 eL_200 rfl rfl ?_
  refine q_Liload_n 0 eL_201 rfl rfl ?_
  refine q_Liconst (a := 4) eL_202 kiconst_4 ?_
  refine q_Liadd eL_203 ?_
  refine q_Lsld eL_204 hin4 ?_
  refine q_Laload_n 1 eL_205 rfl rfl ?_
  refine q_Liload_n 0 eL_206 rfl rfl ?_
  refine q_Liconst (a := 5) eL_207 kiconst_5 ?_
  refine q_Liadd eL_208 ?_
  refine q_Lsld eL_209 hin5 ?_
  refine q_LcallC (As := [.int (xs (nI k + 1).toNatClampNeg), .int (xs (nI k + 2).toNatClampNeg), .int (xs (nI k + 3).toNatClampNeg), .int (xs (nI k + 4).toNatClampNeg), .int (xs (nI k + 5).toNatClampNeg)]) (st := []) eL_210 cv_L_13 (by rw [← hc]; exact kX10_feed X l (xs (nI k + 1).toNatClampNeg) (xs (nI k + 2).toNatClampNeg) (xs (nI k + 3).toNatClampNeg) (xs (nI k + 4).toNatClampNeg) (xs (nI k + 5).toNatClampNeg) u) rfl rfl rfl rfl (Nat.le_of_ble_eq_true rfl) (by decide) ?_
  refine q_Laload_n 3 eL_213 rfl rfl ?_
  refine q_Laload_n 1 eL_214 rfl rfl ?_
  refine q_Liload_n 0 eL_215 rfl rfl ?_
  refine q_Liconst (a := 1) eL_216 kiconst_1 ?_
  refine q_Liadd eL_217 ?_
  refine q_Lsld eL_218 hin1 ?_
  refine q_Laload_n 1 eL_219 rfl rfl ?_
  refine q_Liload_n 0 eL_220 rfl rfl ?_
  refine q_Liconst (a := 2) eL_221 kiconst_2 ?_
  refine q_Liadd eL_222 ?_
  refine q_Lsld eL_223 hin2 ?_
  refine q_Laload_n 1 eL_224 rfl rfl ?_
  refine q_Liload_n 0 eL_225 rfl rfl ?_
  refine q_Liconst (a := 3) eL_226 kiconst_3 ?_
  refine q_Liadd eL_227 ?_
  refine q_Lsld eL_228 hin3 ?_
  refine q_Laload_n 1 eL_229 rfl rfl ?_
  refine q_Liload_n 0 eL_230 rfl rfl ?_
  refine q_Liconst (a := 4) eL_231 kiconst_4 ?_
  refine q_Liadd eL_232 ?_
  refine q_Lsld eL_233 hin4 ?_
  refine q_Laload_n 1 eL_234 rfl rfl ?_
  refine q_Liload_n 0 eL_235 rfl rfl ?_
  refine q_Liconst (a := 5) eL_236 kiconst_5 ?_
  refine q_Liadd eL_237 ?_
  refine q_Lsld eL_238 hin5 ?_
  refine q_LcallR (As := [.int (xs (nI k + 1).toNatClampNeg), .int (xs (nI k + 2).toNatClampNeg), .int (xs (nI k + 3).toNatClampNeg), .int (xs (nI k + 4).toNatClampNeg), .int (xs (nI k + 5).toNatClampNeg)]) (st := [.int r]) eL_239 cv_L_17 (by rw [← hr]; exact kX11_feed Y l (xs (nI k + 1).toNatClampNeg) (xs (nI k + 2).toNatClampNeg) (xs (nI k + 3).toNatClampNeg) (xs (nI k + 4).toNatClampNeg) (xs (nI k + 5).toNatClampNeg) v) rfl rfl rfl rfl (Nat.le_of_ble_eq_true rfl) (by decide) ?_
  refine q_Licmp_eq (tgt := 1418) eL_242 (by decide) ?_
  exact kk u1 v1 hI1
theorem tb_574 : Cond.methodLink R_law 18 mX10_back.2.1 ∈ q_tb := ch_2 _ (List.mem_of_getElem? (i := 211) rfl) rfl
theorem tb_575 : Cond.instanceMethod mX10_back.2.1 ∈ q_tb := ch_2 _ (List.mem_of_getElem? (i := 212) rfl) rfl
theorem tb_576 : Cond.selects mX10_back.2.1.cls mX10_back.2.1 mX10_back.2.1 ∈ q_tb := ch_2 _ (List.mem_of_getElem? (i := 213) rfl) rfl
theorem tb_577 : Cond.code mX10_back.2.1 mX10_back.2.2.1 mX10_back.2.2.2.1 mX10_back.2.2.2.2 ∈ q_tb := ch_2 _ (List.mem_of_getElem? (i := 214) rfl) rfl
theorem cv_L_18 : q_CV R_law 18 mX10_back 1 := ⟨tb_574, tb_575, tb_576, tb_124, tb_577, ⟨by decide +kernel, by decide +kernel, by decide +kernel⟩, by decide⟩
theorem tb_1635 : Cond.methodLink R_law 22 mX11_back.2.1 ∈ q_tb := ch_7 _ (List.mem_of_getElem? (i := 72) rfl) rfl
theorem tb_1636 : Cond.instanceMethod mX11_back.2.1 ∈ q_tb := ch_7 _ (List.mem_of_getElem? (i := 73) rfl) rfl
theorem tb_1637 : Cond.selects mX11_back.2.1.cls mX11_back.2.1 mX11_back.2.1 ∈ q_tb := ch_7 _ (List.mem_of_getElem? (i := 74) rfl) rfl
theorem tb_1638 : Cond.code mX11_back.2.1 mX11_back.2.2.1 mX11_back.2.2.2.1 mX11_back.2.2.2.2 ∈ q_tb := ch_7 _ (List.mem_of_getElem? (i := 75) rfl) rfl
theorem cv_L_22 : q_CV R_law 22 mX11_back 1 := ⟨tb_1635, tb_1636, tb_1637, tb_140, tb_1638, ⟨by decide +kernel, by decide +kernel, by decide +kernel⟩, by decide⟩
def q_sim_back (I : q_W → q_W → Prop) : Prop := ∀ (a1 : Int32) (u v : q_W), I u v → ∃ (r : Int32) (u1 v1 : q_W), fX10_back a1 u = some (r, u1) ∧ fX11_back a1 v = some (r, v1) ∧ I u1 v1
theorem law_1 (l : Launch) (X Y : q_X) (b L k : Nat) (xs : Nat → Int32) (I : q_W → q_W → Prop) (u v : q_W) (hsim : q_sim_back I) (hI : I u v) (hin1 : vp_in (nI k + 1) L) (hin2 : vp_in (nI k + 2) L) (hin3 : vp_in (nI k + 3) L) (hin4 : vp_in (nI k + 4) L) (hin5 : vp_in (nI k + 5) L) (hin6 : vp_in (nI k + 6) L) (kk : ∀ u1 v1, I u1 v1 → q_LJ l X Y b L xs 1418 [(3, .int (nI k)), (0, .ref b), (1, .ref (X.2.2 0)), (2, .ref (Y.2.2 0))] [] u1 v1) : q_LJ l X Y b L xs 247 [(3, .int (nI k)), (0, .ref b), (1, .ref (X.2.2 0)), (2, .ref (Y.2.2 0))] [] u v := by
  obtain ⟨r, u1, v1, hc, hr, hI1⟩ := hsim (xs (nI k + 1).toNatClampNeg) u v hI
  refine q_Laload_n 2 eL_247 rfl rfl ?_
  refine q_Laload_n 1 eL_248 rfl rfl ?_
  refine q_Liload_n 0 eL_249 rfl rfl ?_
  refine q_Liconst (a := 1) eL_250 kiconst_1 ?_
  refine q_Liadd eL_251 ?_
  refine q_Lsld eL_252 hin1 ?_
  refine q_LcallC (As := [.int (xs (nI k + 1).toNatClampNeg)]) (st := []) eL_253 cv_L_18 (by rw [← hc]; exact kX10_back X l (xs (nI k + 1).toNatClampNeg) u) rfl rfl rfl rfl (Nat.le_of_ble_eq_true rfl) (by decide) ?_
  refine q_Laload_n 3 eL_256 rfl rfl ?_
  refine q_Laload_n 1 eL_257 rfl rfl ?_
  refine q_Liload_n 0 eL_258 rfl rfl ?_
  refine q_Liconst (a := 1) eL_259 kiconst_1 ?_
  refine q_Liadd eL_260 ?_
  refine q_Lsld eL_261 hin1 ?_
  refine q_LcallR (As := [.int (xs (nI k + 1).toNatClampNeg)]) (st := [.int r]) eL_262 cv_L_22 (by rw [← hr]; exact kX11_back Y l (xs (nI k + 1).toNatClampNeg) v) rfl rfl rfl rfl (Nat.le_of_ble_eq_true rfl) (by decide) ?_
  refine q_Licmp_eq (tgt := 1418) eL_265 (by decide) ?_
  exact kk u1 v1 hI1
theorem tb_582 : Cond.methodLink R_law 23 mX10_read.2.1 ∈ q_tb := ch_2 _ (List.mem_of_getElem? (i := 219) rfl) rfl
theorem tb_583 : Cond.instanceMethod mX10_read.2.1 ∈ q_tb := ch_2 _ (List.mem_of_getElem? (i := 220) rfl) rfl
theorem tb_584 : Cond.selects mX10_read.2.1.cls mX10_read.2.1 mX10_read.2.1 ∈ q_tb := ch_2 _ (List.mem_of_getElem? (i := 221) rfl) rfl
theorem tb_585 : Cond.code mX10_read.2.1 mX10_read.2.2.1 mX10_read.2.2.2.1 mX10_read.2.2.2.2 ∈ q_tb := ch_2 _ (List.mem_of_getElem? (i := 222) rfl) rfl
theorem cv_L_23 : q_CV R_law 23 mX10_read 0 := ⟨tb_582, tb_583, tb_584, tb_124, tb_585, ⟨by decide +kernel, by decide +kernel, by decide +kernel⟩, by decide⟩
theorem tb_1639 : Cond.methodLink R_law 27 mX11_read.2.1 ∈ q_tb := ch_7 _ (List.mem_of_getElem? (i := 76) rfl) rfl
theorem tb_1640 : Cond.instanceMethod mX11_read.2.1 ∈ q_tb := ch_7 _ (List.mem_of_getElem? (i := 77) rfl) rfl
theorem tb_1641 : Cond.selects mX11_read.2.1.cls mX11_read.2.1 mX11_read.2.1 ∈ q_tb := ch_7 _ (List.mem_of_getElem? (i := 78) rfl) rfl
theorem tb_1642 : Cond.code mX11_read.2.1 mX11_read.2.2.1 mX11_read.2.2.2.1 mX11_read.2.2.2.2 ∈ q_tb := ch_7 _ (List.mem_of_getElem? (i := 79) rfl) rfl
theorem cv_L_27 : q_CV R_law 27 mX11_read 0 := ⟨tb_1639, tb_1640, tb_1641, tb_140, tb_1642, ⟨by decide +kernel, by decide +kernel, by decide +kernel⟩, by decide⟩
def q_sim_read (I : q_W → q_W → Prop) : Prop := ∀ (u v : q_W), I u v → ∃ (r : Int32) (u1 v1 : q_W), fX10_read u = some (r, u1) ∧ fX11_read v = some (r, v1) ∧ I u1 v1
theorem law_2 (l : Launch) (X Y : q_X) (b L k : Nat) (xs : Nat → Int32) (I : q_W → q_W → Prop) (u v : q_W) (hsim : q_sim_read I) (hI : I u v) (hin1 : vp_in (nI k + 1) L) (hin2 : vp_in (nI k + 2) L) (hin3 : vp_in (nI k + 3) L) (hin4 : vp_in (nI k + 4) L) (hin5 : vp_in (nI k + 5) L) (hin6 : vp_in (nI k + 6) L) (kk : ∀ u1 v1, I u1 v1 → q_LJ l X Y b L xs 1418 [(3, .int (nI k)), (0, .ref b), (1, .ref (X.2.2 0)), (2, .ref (Y.2.2 0))] [] u1 v1) : q_LJ l X Y b L xs 270 [(3, .int (nI k)), (0, .ref b), (1, .ref (X.2.2 0)), (2, .ref (Y.2.2 0))] [] u v := by
  obtain ⟨r, u1, v1, hc, hr, hI1⟩ := hsim  u v hI
  refine q_Laload_n 2 eL_270 rfl rfl ?_
  refine q_LcallC (As := []) (st := []) eL_271 cv_L_23 (by rw [← hc]; exact kX10_read X l  u) rfl rfl rfl rfl (Nat.le_of_ble_eq_true rfl) (by decide) ?_
  refine q_Laload_n 3 eL_274 rfl rfl ?_
  refine q_LcallR (As := []) (st := [.int r]) eL_275 cv_L_27 (by rw [← hr]; exact kX11_read Y l  v) rfl rfl rfl rfl (Nat.le_of_ble_eq_true rfl) (by decide) ?_
  refine q_Licmp_eq (tgt := 1418) eL_278 (by decide) ?_
  exact kk u1 v1 hI1
theorem tb_842 : Cond.methodLink R_law 28 mX10_place.2.1 ∈ q_tb := ch_3 _ (List.mem_of_getElem? (i := 239) rfl) rfl
theorem tb_843 : Cond.instanceMethod mX10_place.2.1 ∈ q_tb := ch_4 _ (List.mem_of_getElem? (i := 0) rfl) rfl
theorem tb_844 : Cond.selects mX10_place.2.1.cls mX10_place.2.1 mX10_place.2.1 ∈ q_tb := ch_4 _ (List.mem_of_getElem? (i := 1) rfl) rfl
theorem tb_845 : Cond.code mX10_place.2.1 mX10_place.2.2.1 mX10_place.2.2.2.1 mX10_place.2.2.2.2 ∈ q_tb := ch_4 _ (List.mem_of_getElem? (i := 2) rfl) rfl
theorem cv_L_28 : q_CV R_law 28 mX10_place 0 := ⟨tb_842, tb_843, tb_844, tb_124, tb_845, ⟨by decide +kernel, by decide +kernel, by decide +kernel⟩, by decide⟩
theorem tb_1757 : Cond.methodLink R_law 31 mX11_place.2.1 ∈ q_tb := ch_7 _ (List.mem_of_getElem? (i := 194) rfl) rfl
theorem tb_1758 : Cond.instanceMethod mX11_place.2.1 ∈ q_tb := ch_7 _ (List.mem_of_getElem? (i := 195) rfl) rfl
theorem tb_1759 : Cond.selects mX11_place.2.1.cls mX11_place.2.1 mX11_place.2.1 ∈ q_tb := ch_7 _ (List.mem_of_getElem? (i := 196) rfl) rfl
theorem tb_1760 : Cond.code mX11_place.2.1 mX11_place.2.2.1 mX11_place.2.2.2.1 mX11_place.2.2.2.2 ∈ q_tb := ch_7 _ (List.mem_of_getElem? (i := 197) rfl) rfl
theorem cv_L_31 : q_CV R_law 31 mX11_place 0 := ⟨tb_1757, tb_1758, tb_1759, tb_140, tb_1760, ⟨by decide +kernel, by decide +kernel, by decide +kernel⟩, by decide⟩
def q_sim_place (I : q_W → q_W → Prop) : Prop := ∀ (u v : q_W), I u v → ∃ (r : Int32) (u1 v1 : q_W), fX10_place u = some (r, u1) ∧ fX11_place v = some (r, v1) ∧ I u1 v1
theorem law_3 (l : Launch) (X Y : q_X) (b L k : Nat) (xs : Nat → Int32) (I : q_W → q_W → Prop) (u v : q_W) (hsim : q_sim_place I) (hI : I u v) (hin1 : vp_in (nI k + 1) L) (hin2 : vp_in (nI k + 2) L) (hin3 : vp_in (nI k + 3) L) (hin4 : vp_in (nI k + 4) L) (hin5 : vp_in (nI k + 5) L) (hin6 : vp_in (nI k + 6) L) (kk : ∀ u1 v1, I u1 v1 → q_LJ l X Y b L xs 1418 [(3, .int (nI k)), (0, .ref b), (1, .ref (X.2.2 0)), (2, .ref (Y.2.2 0))] [] u1 v1) : q_LJ l X Y b L xs 283 [(3, .int (nI k)), (0, .ref b), (1, .ref (X.2.2 0)), (2, .ref (Y.2.2 0))] [] u v := by
  obtain ⟨r, u1, v1, hc, hr, hI1⟩ := hsim  u v hI
  refine q_Laload_n 2 eL_283 rfl rfl ?_
  refine q_LcallC (As := []) (st := []) eL_284 cv_L_28 (by rw [← hc]; exact kX10_place X l  u) rfl rfl rfl rfl (Nat.le_of_ble_eq_true rfl) (by decide) ?_
  refine q_Laload_n 3 eL_287 rfl rfl ?_
  refine q_LcallR (As := []) (st := [.int r]) eL_288 cv_L_31 (by rw [← hr]; exact kX11_place Y l  v) rfl rfl rfl rfl (Nat.le_of_ble_eq_true rfl) (by decide) ?_
  refine q_Licmp_eq (tgt := 1418) eL_291 (by decide) ?_
  exact kk u1 v1 hI1
theorem tb_846 : Cond.methodLink R_law 32 mX10_drop.2.1 ∈ q_tb := ch_4 _ (List.mem_of_getElem? (i := 3) rfl) rfl
theorem tb_847 : Cond.instanceMethod mX10_drop.2.1 ∈ q_tb := ch_4 _ (List.mem_of_getElem? (i := 4) rfl) rfl
theorem tb_848 : Cond.selects mX10_drop.2.1.cls mX10_drop.2.1 mX10_drop.2.1 ∈ q_tb := ch_4 _ (List.mem_of_getElem? (i := 5) rfl) rfl
theorem tb_849 : Cond.code mX10_drop.2.1 mX10_drop.2.2.1 mX10_drop.2.2.2.1 mX10_drop.2.2.2.2 ∈ q_tb := ch_4 _ (List.mem_of_getElem? (i := 6) rfl) rfl
theorem cv_L_32 : q_CV R_law 32 mX10_drop 4 := ⟨tb_846, tb_847, tb_848, tb_124, tb_849, ⟨by decide +kernel, by decide +kernel, by decide +kernel⟩, by decide⟩
theorem tb_1761 : Cond.methodLink R_law 36 mX11_drop.2.1 ∈ q_tb := ch_7 _ (List.mem_of_getElem? (i := 198) rfl) rfl
theorem tb_1762 : Cond.instanceMethod mX11_drop.2.1 ∈ q_tb := ch_7 _ (List.mem_of_getElem? (i := 199) rfl) rfl
theorem tb_1763 : Cond.selects mX11_drop.2.1.cls mX11_drop.2.1 mX11_drop.2.1 ∈ q_tb := ch_7 _ (List.mem_of_getElem? (i := 200) rfl) rfl
theorem tb_1764 : Cond.code mX11_drop.2.1 mX11_drop.2.2.1 mX11_drop.2.2.2.1 mX11_drop.2.2.2.2 ∈ q_tb := ch_7 _ (List.mem_of_getElem? (i := 201) rfl) rfl
theorem cv_L_36 : q_CV R_law 36 mX11_drop 4 := ⟨tb_1761, tb_1762, tb_1763, tb_140, tb_1764, ⟨by decide +kernel, by decide +kernel, by decide +kernel⟩, by decide⟩
def q_sim_drop (I : q_W → q_W → Prop) : Prop := ∀ (a1 a2 a3 a4 : Int32) (u v : q_W), I u v → ∃ (r : Int32) (u1 v1 : q_W), fX10_drop a1 a2 a3 a4 u = some (r, u1) ∧ fX11_drop a1 a2 a3 a4 v = some (r, v1) ∧ I u1 v1
theorem law_4 (l : Launch) (X Y : q_X) (b L k : Nat) (xs : Nat → Int32) (I : q_W → q_W → Prop) (u v : q_W) (hsim : q_sim_drop I) (hI : I u v) (hin1 : vp_in (nI k + 1) L) (hin2 : vp_in (nI k + 2) L) (hin3 : vp_in (nI k + 3) L) (hin4 : vp_in (nI k + 4) L) (hin5 : vp_in (nI k + 5) L) (hin6 : vp_in (nI k + 6) L) (kk : ∀ u1 v1, I u1 v1 → q_LJ l X Y b L xs 1418 [(3, .int (nI k)), (0, .ref b), (1, .ref (X.2.2 0)), (2, .ref (Y.2.2 0))] [] u1 v1) : q_LJ l X Y b L xs 296 [(3, .int (nI k)), (0, .ref b), (1, .ref (X.2.2 0)), (2, .ref (Y.2.2 0))] [] u v := by
  obtain ⟨r, u1, v1, hc, hr, hI1⟩ := hsim (xs (nI k + 1).toNatClampNeg) (xs (nI k + 2).toNatClampNeg) (xs (nI k + 3).toNatClampNeg) (xs (nI k + 4).toNatClampNeg) u v hI
  refine q_Laload_n 2 eL_296 rfl rfl ?_
  refine q_Laload_n 1 eL_297 rfl rfl ?_
  refine q_Liload_n 0 eL_298 rfl rfl ?_
  refine q_Liconst (a := 1) eL_299 kiconst_1 ?_
  refine q_Liadd eL_300 ?_
  refine q_Lsld eL_301 hin1 ?_
  refine q_Laload_n 1 eL_302 rfl rfl ?_
  refine q_Liload_n 0 eL_303 rfl rfl ?_
  refine q_Liconst (a := 2) eL_304 kiconst_2 ?_
  refine q_Liadd eL_305 ?_
  refine q_Lsld eL_306 hin2 ?_
  refine q_Laload_n 1 eL_307 rfl rfl ?_
  refine q_Liload_n 0 eL_308 rfl rfl ?_
  refine q_Liconst (a := 3) eL_309 kiconst_3 ?_
  refine q_Liadd eL_310 ?_
  refine q_Lsld eL_311 hin3 ?_
  refine q_Laload_n 1 eL_312 rfl rfl ?_
  refine q_Liload_n 0 eL_313 rfl rfl ?_
  refine q_Liconst (a := 4) eL_314 kiconst_4 ?_
  refine q_Liadd eL_315 ?_
  refine q_Lsld eL_316 hin4 ?_
  refine q_LcallC (As := [.int (xs (nI k + 1).toNatClampNeg), .int (xs (nI k + 2).toNatClampNeg), .int (xs (nI k + 3).toNatClampNeg), .int (xs (nI k + 4).toNatClampNeg)]) (st := []) eL_317 cv_L_32 (by rw [← hc]; exact kX10_drop X l (xs (nI k + 1).toNatClampNeg) (xs (nI k + 2).toNatClampNeg) (xs (nI k + 3).toNatClampNeg) (xs (nI k + 4).toNatClampNeg) u) rfl rfl rfl rfl (Nat.le_of_ble_eq_true rfl) (by decide) ?_
  refine q_Laload_n 3 eL_320 rfl rfl ?_
  refine q_Laload_n 1 eL_321 rfl rfl ?_
  refine q_Liload_n 0 eL_322 rfl rfl ?_
  refine q_Liconst (a := 1) eL_323 kiconst_1 ?_
  refine q_Liadd eL_324 ?_
  refine q_Lsld eL_325 hin1 ?_
  refine q_Laload_n 1 eL_326 rfl rfl ?_
  refine q_Liload_n 0 eL_327 rfl rfl ?_
  refine q_Liconst (a := 2) eL_328 kiconst_2 ?_
  refine q_Liadd eL_329 ?_
  refine q_Lsld eL_330 hin2 ?_
  refine q_Laload_n 1 eL_331 rfl rfl ?_
  refine q_Liload_n 0 eL_332 rfl rfl ?_
  refine q_Liconst (a := 3) eL_333 kiconst_3 ?_
  refine q_Liadd eL_334 ?_
  refine q_Lsld eL_335 hin3 ?_
  refine q_Laload_n 1 eL_336 rfl rfl ?_
  refine q_Liload_n 0 eL_337 rfl rfl ?_
  refine q_Liconst (a := 4) eL_338 kiconst_4 ?_
  refine q_Liadd eL_339 ?_
  refine q_Lsld eL_340 hin4 ?_
  refine q_LcallR (As := [.int (xs (nI k + 1).toNatClampNeg), .int (xs (nI k + 2).toNatClampNeg), .int (xs (nI k + 3).toNatClampNeg), .int (xs (nI k + 4).toNatClampNeg)]) (st := [.int r]) eL_341 cv_L_36 (by rw [← hr]; exact kX11_drop Y l (xs (nI k + 1).toNatClampNeg) (xs (nI k + 2).toNatClampNeg) (xs (nI k + 3).toNatClampNeg) (xs (nI k + 4).toNatClampNeg) v) rfl rfl rfl rfl (Nat.le_of_ble_eq_true rfl) (by decide) ?_
  refine q_Licmp_eq (tgt := 1418) eL_344 (by decide) ?_
  exact kk u1 v1 hI1
theorem tb_874 : Cond.methodLink R_law 37 mX10_line.2.1 ∈ q_tb := ch_4 _ (List.mem_of_getElem? (i := 31) rfl) rfl
theorem tb_875 : Cond.instanceMethod mX10_line.2.1 ∈ q_tb := ch_4 _ (List.mem_of_getElem? (i := 32) rfl) rfl
theorem tb_876 : Cond.selects mX10_line.2.1.cls mX10_line.2.1 mX10_line.2.1 ∈ q_tb := ch_4 _ (List.mem_of_getElem? (i := 33) rfl) rfl
theorem tb_877 : Cond.code mX10_line.2.1 mX10_line.2.2.1 mX10_line.2.2.2.1 mX10_line.2.2.2.2 ∈ q_tb := ch_4 _ (List.mem_of_getElem? (i := 34) rfl) rfl
theorem cv_L_37 : q_CV R_law 37 mX10_line 4 := ⟨tb_874, tb_875, tb_876, tb_124, tb_877, ⟨by decide +kernel, by decide +kernel, by decide +kernel⟩, by decide⟩
theorem tb_1780 : Cond.methodLink R_law 40 mX11_line.2.1 ∈ q_tb := ch_7 _ (List.mem_of_getElem? (i := 217) rfl) rfl
theorem tb_1781 : Cond.instanceMethod mX11_line.2.1 ∈ q_tb := ch_7 _ (List.mem_of_getElem? (i := 218) rfl) rfl
theorem tb_1782 : Cond.selects mX11_line.2.1.cls mX11_line.2.1 mX11_line.2.1 ∈ q_tb := ch_7 _ (List.mem_of_getElem? (i := 219) rfl) rfl
theorem tb_1783 : Cond.code mX11_line.2.1 mX11_line.2.2.1 mX11_line.2.2.2.1 mX11_line.2.2.2.2 ∈ q_tb := ch_7 _ (List.mem_of_getElem? (i := 220) rfl) rfl
theorem cv_L_40 : q_CV R_law 40 mX11_line 4 := ⟨tb_1780, tb_1781, tb_1782, tb_140, tb_1783, ⟨by decide +kernel, by decide +kernel, by decide +kernel⟩, by decide⟩
def q_sim_line (I : q_W → q_W → Prop) : Prop := ∀ (a1 a2 a3 a4 : Int32) (u v : q_W), I u v → ∃ (r : Int32) (u1 v1 : q_W), fX10_line a1 a2 a3 a4 u = some (r, u1) ∧ fX11_line a1 a2 a3 a4 v = some (r, v1) ∧ I u1 v1
theorem law_5 (l : Launch) (X Y : q_X) (b L k : Nat) (xs : Nat → Int32) (I : q_W → q_W → Prop) (u v : q_W) (hsim : q_sim_line I) (hI : I u v) (hin1 : vp_in (nI k + 1) L) (hin2 : vp_in (nI k + 2) L) (hin3 : vp_in (nI k + 3) L) (hin4 : vp_in (nI k + 4) L) (hin5 : vp_in (nI k + 5) L) (hin6 : vp_in (nI k + 6) L) (kk : ∀ u1 v1, I u1 v1 → q_LJ l X Y b L xs 1418 [(3, .int (nI k)), (0, .ref b), (1, .ref (X.2.2 0)), (2, .ref (Y.2.2 0))] [] u1 v1) : q_LJ l X Y b L xs 349 [(3, .int (nI k)), (0, .ref b), (1, .ref (X.2.2 0)), (2, .ref (Y.2.2 0))] [] u v := by
  obtain ⟨r, u1, v1, hc, hr, hI1⟩ := hsim (xs (nI k + 1).toNatClampNeg) (xs (nI k + 2).toNatClampNeg) (xs (nI k + 3).toNatClampNeg) (xs (nI k + 4).toNatClampNeg) u v hI
  refine q_Laload_n 2 eL_349 rfl rfl ?_
  refine q_Laload_n 1 eL_350 rfl rfl ?_
  refine q_Liload_n 0 eL_351 rfl rfl ?_
  refine q_Liconst (a := 1) eL_352 kiconst_1 ?_
  refine q_Liadd eL_353 ?_
  refine q_Lsld eL_354 hin1 ?_
  refine q_Laload_n 1 eL_355 rfl rfl ?_
  refine q_Liload_n 0 eL_356 rfl rfl ?_
  refine q_Liconst (a := 2) eL_357 kiconst_2 ?_
  refine q_Liadd eL_358 ?_
  refine q_Lsld eL_359 hin2 ?_
  refine q_Laload_n 1 eL_360 rfl rfl ?_
  refine q_Liload_n 0 eL_361 rfl rfl ?_
  refine q_Liconst (a := 3) eL_362 kiconst_3 ?_
  refine q_Liadd eL_363 ?_
  refine q_Lsld eL_364 hin3 ?_
  refine q_Laload_n 1 eL_365 rfl rfl ?_
  refine q_Liload_n 0 eL_366 rfl rfl ?_
  refine q_Liconst (a := 4) eL_367 kiconst_4 ?_
  refine q_Liadd eL_368 ?_
  refine q_Lsld eL_369 hin4 ?_
  refine q_LcallC (As := [.int (xs (nI k + 1).toNatClampNeg), .int (xs (nI k + 2).toNatClampNeg), .int (xs (nI k + 3).toNatClampNeg), .int (xs (nI k + 4).toNatClampNeg)]) (st := []) eL_370 cv_L_37 (by rw [← hc]; exact kX10_line X l (xs (nI k + 1).toNatClampNeg) (xs (nI k + 2).toNatClampNeg) (xs (nI k + 3).toNatClampNeg) (xs (nI k + 4).toNatClampNeg) u) rfl rfl rfl rfl (Nat.le_of_ble_eq_true rfl) (by decide) ?_
  refine q_Laload_n 3 eL_373 rfl rfl ?_
  refine q_Laload_n 1 eL_374 rfl rfl ?_
  refine q_Liload_n 0 eL_375 rfl rfl ?_
  refine q_Liconst (a := 1) eL_376 kiconst_1 ?_
  refine q_Liadd eL_377 ?_
  refine q_Lsld eL_378 hin1 ?_
  refine q_Laload_n 1 eL_379 rfl rfl ?_
  refine q_Liload_n 0 eL_380 rfl rfl ?_
  refine q_Liconst (a := 2) eL_381 kiconst_2 ?_
  refine q_Liadd eL_382 ?_
  refine q_Lsld eL_383 hin2 ?_
  refine q_Laload_n 1 eL_384 rfl rfl ?_
  refine q_Liload_n 0 eL_385 rfl rfl ?_
  refine q_Liconst (a := 3) eL_386 kiconst_3 ?_
  refine q_Liadd eL_387 ?_
  refine q_Lsld eL_388 hin3 ?_
  refine q_Laload_n 1 eL_389 rfl rfl ?_
  refine q_Liload_n 0 eL_390 rfl rfl ?_
  refine q_Liconst (a := 4) eL_391 kiconst_4 ?_
  refine q_Liadd eL_392 ?_
  refine q_Lsld eL_393 hin4 ?_
  refine q_LcallR (As := [.int (xs (nI k + 1).toNatClampNeg), .int (xs (nI k + 2).toNatClampNeg), .int (xs (nI k + 3).toNatClampNeg), .int (xs (nI k + 4).toNatClampNeg)]) (st := [.int r]) eL_394 cv_L_40 (by rw [← hr]; exact kX11_line Y l (xs (nI k + 1).toNatClampNeg) (xs (nI k + 2).toNatClampNeg) (xs (nI k + 3).toNatClampNeg) (xs (nI k + 4).toNatClampNeg) v) rfl rfl rfl rfl (Nat.le_of_ble_eq_true rfl) (by decide) ?_
  refine q_Licmp_eq (tgt := 1418) eL_397 (by decide) ?_
  exact kk u1 v1 hI1
theorem tb_878 : Cond.methodLink R_law 41 mX10_comb.2.1 ∈ q_tb := ch_4 _ (List.mem_of_getElem? (i := 35) rfl) rfl
theorem tb_879 : Cond.instanceMethod mX10_comb.2.1 ∈ q_tb := ch_4 _ (List.mem_of_getElem? (i := 36) rfl) rfl
theorem tb_880 : Cond.selects mX10_comb.2.1.cls mX10_comb.2.1 mX10_comb.2.1 ∈ q_tb := ch_4 _ (List.mem_of_getElem? (i := 37) rfl) rfl
theorem tb_881 : Cond.code mX10_comb.2.1 mX10_comb.2.2.1 mX10_comb.2.2.2.1 mX10_comb.2.2.2.2 ∈ q_tb := ch_4 _ (List.mem_of_getElem? (i := 38) rfl) rfl
theorem cv_L_41 : q_CV R_law 41 mX10_comb 6 := ⟨tb_878, tb_879, tb_880, tb_124, tb_881, ⟨by decide +kernel, by decide +kernel, by decide +kernel⟩, by decide⟩
theorem tb_1784 : Cond.methodLink R_law 45 mX11_comb.2.1 ∈ q_tb := ch_7 _ (List.mem_of_getElem? (i := 221) rfl) rfl
theorem tb_1785 : Cond.instanceMethod mX11_comb.2.1 ∈ q_tb := ch_7 _ (List.mem_of_getElem? (i := 222) rfl) rfl
theorem tb_1786 : Cond.selects mX11_comb.2.1.cls mX11_comb.2.1 mX11_comb.2.1 ∈ q_tb := ch_7 _ (List.mem_of_getElem? (i := 223) rfl) rfl
theorem tb_1787 : Cond.code mX11_comb.2.1 mX11_comb.2.2.1 mX11_comb.2.2.2.1 mX11_comb.2.2.2.2 ∈ q_tb := ch_7 _ (List.mem_of_getElem? (i := 224) rfl) rfl
theorem cv_L_45 : q_CV R_law 45 mX11_comb 6 := ⟨tb_1784, tb_1785, tb_1786, tb_140, tb_1787, ⟨by decide +kernel, by decide +kernel, by decide +kernel⟩, by decide⟩
def q_sim_comb (I : q_W → q_W → Prop) : Prop := ∀ (a1 a2 a3 a4 a5 a6 : Int32) (u v : q_W), I u v → ∃ (r : Int32) (u1 v1 : q_W), fX10_comb a1 a2 a3 a4 a5 a6 u = some (r, u1) ∧ fX11_comb a1 a2 a3 a4 a5 a6 v = some (r, v1) ∧ I u1 v1
theorem law_6 (l : Launch) (X Y : q_X) (b L k : Nat) (xs : Nat → Int32) (I : q_W → q_W → Prop) (u v : q_W) (hsim : q_sim_comb I) (hI : I u v) (hin1 : vp_in (nI k + 1) L) (hin2 : vp_in (nI k + 2) L) (hin3 : vp_in (nI k + 3) L) (hin4 : vp_in (nI k + 4) L) (hin5 : vp_in (nI k + 5) L) (hin6 : vp_in (nI k + 6) L) (kk : ∀ u1 v1, I u1 v1 → q_LJ l X Y b L xs 1418 [(3, .int (nI k)), (0, .ref b), (1, .ref (X.2.2 0)), (2, .ref (Y.2.2 0))] [] u1 v1) : q_LJ l X Y b L xs 402 [(3, .int (nI k)), (0, .ref b), (1, .ref (X.2.2 0)), (2, .ref (Y.2.2 0))] [] u v := by
  obtain ⟨r, u1, v1, hc, hr, hI1⟩ := hsim (xs (nI k + 1).toNatClampNeg) (xs (nI k + 2).toNatClampNeg) (xs (nI k + 3).toNatClampNeg) (xs (nI k + 4).toNatClampNeg) (xs (nI k + 5).toNatClampNeg) (xs (nI k + 6).toNatClampNeg) u v hI
  refine q_Laload_n 2 eL_402 rfl rfl ?_
  refine q_Laload_n 1 eL_403 rfl rfl ?_
  refine q_Liload_n 0 eL_404 rfl rfl ?_
  refine q_Liconst (a := 1) eL_405 kiconst_1 ?_
  refine q_Liadd eL_406 ?_
  refine q_Lsld eL_407 hin1 ?_
  refine q_Laload_n 1 eL_408 rfl rfl ?_
  refine q_Liload_n 0 eL_409 rfl rfl ?_
  refine q_Liconst (a := 2) eL_410 kiconst_2 ?_
  refine q_Liadd eL_411 ?_
  refine q_Lsld eL_412 hin2 ?_
  refine q_Laload_n 1 eL_413 rfl rfl ?_
  refine q_Liload_n 0 eL_414 rfl rfl ?_
  refine q_Liconst (a := 3) eL_415 kiconst_3 ?_
  refine q_Liadd eL_416 ?_
  refine q_Lsld eL_417 hin3 ?_
  refine q_Laload_n 1 eL_418 rfl rfl ?_
  refine q_Liload_n 0 eL_419 rfl rfl ?_
  refine q_Liconst (a := 4) eL_420 kiconst_4 ?_
  refine q_Liadd eL_421 ?_
  refine q_Lsld eL_422 hin4 ?_
  refine q_Laload_n 1 eL_423 rfl rfl ?_
  refine q_Liload_n 0 eL_424 rfl rfl ?_
  refine q_Liconst (a := 5) eL_425 kiconst_5 ?_
  refine q_Liadd eL_426 ?_
  refine q_Lsld eL_427 hin5 ?_
  refine q_Laload_n 1 eL_428 rfl rfl ?_
  refine q_Liload_n 0 eL_429 rfl rfl ?_
  refine q_Lbipush (a := 6) eL_430 kbipush_6 ?_
  refine q_Liadd eL_432 ?_
  refine q_Lsld eL_433 hin6 ?_
  refine q_LcallC (As := [.int (xs (nI k + 1).toNatClampNeg), .int (xs (nI k + 2).toNatClampNeg), .int (xs (nI k + 3).toNatClampNeg), .int (xs (nI k + 4).toNatClampNeg), .int (xs (nI k + 5).toNatClampNeg), .int (xs (nI k + 6).toNatClampNeg)]) (st := []) eL_434 cv_L_41 (by rw [← hc]; exact kX10_comb X l (xs (nI k + 1).toNatClampNeg) (xs (nI k + 2).toNatClampNeg) (xs (nI k + 3).toNatClampNeg) (xs (nI k + 4).toNatClampNeg) (xs (nI k + 5).toNatClampNeg) (xs (nI k + 6).toNatClampNeg) u) rfl rfl rfl rfl (Nat.le_of_ble_eq_true rfl) (by decide) ?_
  refine q_Laload_n 3 eL_437 rfl rfl ?_
  refine q_Laload_n 1 eL_438 rfl rfl ?_
  refine q_Liload_n 0 eL_439 rfl rfl ?_
  refine q_Liconst (a := 1) eL_440 kiconst_1 ?_
  refine q_Liadd eL_441 ?_
  refine q_Lsld eL_442 hin1 ?_
  refine q_Laload_n 1 eL_443 rfl rfl ?_
  refine q_Liload_n 0 eL_444 rfl rfl ?_
  refine q_Liconst (a := 2) eL_445 kiconst_2 ?_
  refine q_Liadd eL_446 ?_
  refine q_Lsld eL_447 hin2 ?_
  refine q_Laload_n 1 eL_448 rfl rfl ?_
  refine q_Liload_n 0 eL_449 rfl rfl ?_
  refine q_Liconst (a := 3) eL_450 kiconst_3 ?_
  refine q_Liadd eL_451 ?_
  refine q_Lsld eL_452 hin3 ?_
  refine q_Laload_n 1 eL_453 rfl rfl ?_
  refine q_Liload_n 0 eL_454 rfl rfl ?_
  refine q_Liconst (a := 4) eL_455 kiconst_4 ?_
  refine q_Liadd eL_456 ?_
  refine q_Lsld eL_457 hin4 ?_
  refine q_Laload_n 1 eL_458 rfl rfl ?_
  refine q_Liload_n 0 eL_459 rfl rfl ?_
  refine q_Liconst (a := 5) eL_460 kiconst_5 ?_
  refine q_Liadd eL_461 ?_
  refine q_Lsld eL_462 hin5 ?_
  refine q_Laload_n 1 eL_463 rfl rfl ?_
  refine q_Liload_n 0 eL_464 rfl rfl ?_
  refine q_Lbipush (a := 6) eL_465 kbipush_6 ?_
  refine q_Liadd eL_467 ?_
  refine q_Lsld eL_468 hin6 ?_
  refine q_LcallR (As := [.int (xs (nI k + 1).toNatClampNeg), .int (xs (nI k + 2).toNatClampNeg), .int (xs (nI k + 3).toNatClampNeg), .int (xs (nI k + 4).toNatClampNeg), .int (xs (nI k + 5).toNatClampNeg), .int (xs (nI k + 6).toNatClampNeg)]) (st := [.int r]) eL_469 cv_L_45 (by rw [← hr]; exact kX11_comb Y l (xs (nI k + 1).toNatClampNeg) (xs (nI k + 2).toNatClampNeg) (xs (nI k + 3).toNatClampNeg) (xs (nI k + 4).toNatClampNeg) (xs (nI k + 5).toNatClampNeg) (xs (nI k + 6).toNatClampNeg) v) rfl rfl rfl rfl (Nat.le_of_ble_eq_true rfl) (by decide) ?_
  refine q_Licmp_eq (tgt := 1418) eL_472 (by decide) ?_
  exact kk u1 v1 hI1
theorem tb_882 : Cond.methodLink R_law 46 mX10_wave.2.1 ∈ q_tb := ch_4 _ (List.mem_of_getElem? (i := 39) rfl) rfl
theorem tb_883 : Cond.instanceMethod mX10_wave.2.1 ∈ q_tb := ch_4 _ (List.mem_of_getElem? (i := 40) rfl) rfl
theorem tb_884 : Cond.selects mX10_wave.2.1.cls mX10_wave.2.1 mX10_wave.2.1 ∈ q_tb := ch_4 _ (List.mem_of_getElem? (i := 41) rfl) rfl
theorem tb_885 : Cond.code mX10_wave.2.1 mX10_wave.2.2.1 mX10_wave.2.2.2.1 mX10_wave.2.2.2.2 ∈ q_tb := ch_4 _ (List.mem_of_getElem? (i := 42) rfl) rfl
theorem cv_L_46 : q_CV R_law 46 mX10_wave 3 := ⟨tb_882, tb_883, tb_884, tb_124, tb_885, ⟨by decide +kernel, by decide +kernel, by decide +kernel⟩, by decide⟩
theorem tb_1788 : Cond.methodLink R_law 50 mX11_wave.2.1 ∈ q_tb := ch_7 _ (List.mem_of_getElem? (i := 225) rfl) rfl
theorem tb_1789 : Cond.instanceMethod mX11_wave.2.1 ∈ q_tb := ch_7 _ (List.mem_of_getElem? (i := 226) rfl) rfl
theorem tb_1790 : Cond.selects mX11_wave.2.1.cls mX11_wave.2.1 mX11_wave.2.1 ∈ q_tb := ch_7 _ (List.mem_of_getElem? (i := 227) rfl) rfl
theorem tb_1791 : Cond.code mX11_wave.2.1 mX11_wave.2.2.1 mX11_wave.2.2.2.1 mX11_wave.2.2.2.2 ∈ q_tb := ch_7 _ (List.mem_of_getElem? (i := 228) rfl) rfl
theorem cv_L_50 : q_CV R_law 50 mX11_wave 3 := ⟨tb_1788, tb_1789, tb_1790, tb_140, tb_1791, ⟨by decide +kernel, by decide +kernel, by decide +kernel⟩, by decide⟩
def q_sim_wave (I : q_W → q_W → Prop) : Prop := ∀ (a1 a2 a3 : Int32) (u v : q_W), I u v → ∃ (r : Int32) (u1 v1 : q_W), fX10_wave a1 a2 a3 u = some (r, u1) ∧ fX11_wave a1 a2 a3 v = some (r, v1) ∧ I u1 v1
theorem law_7 (l : Launch) (X Y : q_X) (b L k : Nat) (xs : Nat → Int32) (I : q_W → q_W → Prop) (u v : q_W) (hsim : q_sim_wave I) (hI : I u v) (hin1 : vp_in (nI k + 1) L) (hin2 : vp_in (nI k + 2) L) (hin3 : vp_in (nI k + 3) L) (hin4 : vp_in (nI k + 4) L) (hin5 : vp_in (nI k + 5) L) (hin6 : vp_in (nI k + 6) L) (kk : ∀ u1 v1, I u1 v1 → q_LJ l X Y b L xs 1418 [(3, .int (nI k)), (0, .ref b), (1, .ref (X.2.2 0)), (2, .ref (Y.2.2 0))] [] u1 v1) : q_LJ l X Y b L xs 477 [(3, .int (nI k)), (0, .ref b), (1, .ref (X.2.2 0)), (2, .ref (Y.2.2 0))] [] u v := by
  obtain ⟨r, u1, v1, hc, hr, hI1⟩ := hsim (xs (nI k + 1).toNatClampNeg) (xs (nI k + 2).toNatClampNeg) (xs (nI k + 3).toNatClampNeg) u v hI
  refine q_Laload_n 2 eL_477 rfl rfl ?_
  refine q_Laload_n 1 eL_478 rfl rfl ?_
  refine q_Liload_n 0 eL_479 rfl rfl ?_
  refine q_Liconst (a := 1) eL_480 kiconst_1 ?_
  refine q_Liadd eL_481 ?_
  refine q_Lsld eL_482 hin1 ?_
  refine q_Laload_n 1 eL_483 rfl rfl ?_
  refine q_Liload_n 0 eL_484 rfl rfl ?_
  refine q_Liconst (a := 2) eL_485 kiconst_2 ?_
  refine q_Liadd eL_486 ?_
  refine q_Lsld eL_487 hin2 ?_
  refine q_Laload_n 1 eL_488 rfl rfl ?_
  refine q_Liload_n 0 eL_489 rfl rfl ?_
  refine q_Liconst (a := 3) eL_490 kiconst_3 ?_
  refine q_Liadd eL_491 ?_
  refine q_Lsld eL_492 hin3 ?_
  refine q_LcallC (As := [.int (xs (nI k + 1).toNatClampNeg), .int (xs (nI k + 2).toNatClampNeg), .int (xs (nI k + 3).toNatClampNeg)]) (st := []) eL_493 cv_L_46 (by rw [← hc]; exact kX10_wave X l (xs (nI k + 1).toNatClampNeg) (xs (nI k + 2).toNatClampNeg) (xs (nI k + 3).toNatClampNeg) u) rfl rfl rfl rfl (Nat.le_of_ble_eq_true rfl) (by decide) ?_
  refine q_Laload_n 3 eL_496 rfl rfl ?_
  refine q_Laload_n 1 eL_497 rfl rfl ?_
  refine q_Liload_n 0 eL_498 rfl rfl ?_
  refine q_Liconst (a := 1) eL_499 kiconst_1 ?_
  refine q_Liadd eL_500 ?_
  refine q_Lsld eL_501 hin1 ?_
  refine q_Laload_n 1 eL_502 rfl rfl ?_
  refine q_Liload_n 0 eL_503 rfl rfl ?_
  refine q_Liconst (a := 2) eL_504 kiconst_2 ?_
  refine q_Liadd eL_505 ?_
  refine q_Lsld eL_506 hin2 ?_
  refine q_Laload_n 1 eL_507 rfl rfl ?_
  refine q_Liload_n 0 eL_508 rfl rfl ?_
  refine q_Liconst (a := 3) eL_509 kiconst_3 ?_
  refine q_Liadd eL_510 ?_
  refine q_Lsld eL_511 hin3 ?_
  refine q_LcallR (As := [.int (xs (nI k + 1).toNatClampNeg), .int (xs (nI k + 2).toNatClampNeg), .int (xs (nI k + 3).toNatClampNeg)]) (st := [.int r]) eL_512 cv_L_50 (by rw [← hr]; exact kX11_wave Y l (xs (nI k + 1).toNatClampNeg) (xs (nI k + 2).toNatClampNeg) (xs (nI k + 3).toNatClampNeg) v) rfl rfl rfl rfl (Nat.le_of_ble_eq_true rfl) (by decide) ?_
  refine q_Licmp_eq (tgt := 1418) eL_515 (by decide) ?_
  exact kk u1 v1 hI1
theorem tb_886 : Cond.methodLink R_law 51 mX10_lay.2.1 ∈ q_tb := ch_4 _ (List.mem_of_getElem? (i := 43) rfl) rfl
theorem tb_887 : Cond.instanceMethod mX10_lay.2.1 ∈ q_tb := ch_4 _ (List.mem_of_getElem? (i := 44) rfl) rfl
theorem tb_888 : Cond.selects mX10_lay.2.1.cls mX10_lay.2.1 mX10_lay.2.1 ∈ q_tb := ch_4 _ (List.mem_of_getElem? (i := 45) rfl) rfl
theorem tb_889 : Cond.code mX10_lay.2.1 mX10_lay.2.2.1 mX10_lay.2.2.2.1 mX10_lay.2.2.2.2 ∈ q_tb := ch_4 _ (List.mem_of_getElem? (i := 46) rfl) rfl
theorem cv_L_51 : q_CV R_law 51 mX10_lay 1 := ⟨tb_886, tb_887, tb_888, tb_124, tb_889, ⟨by decide +kernel, by decide +kernel, by decide +kernel⟩, by decide⟩
theorem tb_1792 : Cond.methodLink R_law 54 mX11_lay.2.1 ∈ q_tb := ch_7 _ (List.mem_of_getElem? (i := 229) rfl) rfl
theorem tb_1793 : Cond.instanceMethod mX11_lay.2.1 ∈ q_tb := ch_7 _ (List.mem_of_getElem? (i := 230) rfl) rfl
theorem tb_1794 : Cond.selects mX11_lay.2.1.cls mX11_lay.2.1 mX11_lay.2.1 ∈ q_tb := ch_7 _ (List.mem_of_getElem? (i := 231) rfl) rfl
theorem tb_1795 : Cond.code mX11_lay.2.1 mX11_lay.2.2.1 mX11_lay.2.2.2.1 mX11_lay.2.2.2.2 ∈ q_tb := ch_7 _ (List.mem_of_getElem? (i := 232) rfl) rfl
theorem cv_L_54 : q_CV R_law 54 mX11_lay 1 := ⟨tb_1792, tb_1793, tb_1794, tb_140, tb_1795, ⟨by decide +kernel, by decide +kernel, by decide +kernel⟩, by decide⟩
def q_sim_lay (I : q_W → q_W → Prop) : Prop := ∀ (a1 : Int32) (u v : q_W), I u v → ∃ (r : Int32) (u1 v1 : q_W), fX10_lay a1 u = some (r, u1) ∧ fX11_lay a1 v = some (r, v1) ∧ I u1 v1
theorem law_8 (l : Launch) (X Y : q_X) (b L k : Nat) (xs : Nat → Int32) (I : q_W → q_W → Prop) (u v : q_W) (hsim : q_sim_lay I) (hI : I u v) (hin1 : vp_in (nI k + 1) L) (hin2 : vp_in (nI k + 2) L) (hin3 : vp_in (nI k + 3) L) (hin4 : vp_in (nI k + 4) L) (hin5 : vp_in (nI k + 5) L) (hin6 : vp_in (nI k + 6) L) (kk : ∀ u1 v1, I u1 v1 → q_LJ l X Y b L xs 1418 [(3, .int (nI k)), (0, .ref b), (1, .ref (X.2.2 0)), (2, .ref (Y.2.2 0))] [] u1 v1) : q_LJ l X Y b L xs 520 [(3, .int (nI k)), (0, .ref b), (1, .ref (X.2.2 0)), (2, .ref (Y.2.2 0))] [] u v := by
  obtain ⟨r, u1, v1, hc, hr, hI1⟩ := hsim (xs (nI k + 1).toNatClampNeg) u v hI
  refine q_Laload_n 2 eL_520 rfl rfl ?_
  refine q_Laload_n 1 eL_521 rfl rfl ?_
  refine q_Liload_n 0 eL_522 rfl rfl ?_
  refine q_Liconst (a := 1) eL_523 kiconst_1 ?_
  refine q_Liadd eL_524 ?_
  refine q_Lsld eL_525 hin1 ?_
  refine q_LcallC (As := [.int (xs (nI k + 1).toNatClampNeg)]) (st := []) eL_526 cv_L_51 (by rw [← hc]; exact kX10_lay X l (xs (nI k + 1).toNatClampNeg) u) rfl rfl rfl rfl (Nat.le_of_ble_eq_true rfl) (by decide) ?_
  refine q_Laload_n 3 eL_529 rfl rfl ?_
  refine q_Laload_n 1 eL_530 rfl rfl ?_
  refine q_Liload_n 0 eL_531 rfl rfl ?_
  refine q_Liconst (a := 1) eL_532 kiconst_1 ?_
  refine q_Liadd eL_533 ?_
  refine q_Lsld eL_534 hin1 ?_
  refine q_LcallR (As := [.int (xs (nI k + 1).toNatClampNeg)]) (st := [.int r]) eL_535 cv_L_54 (by rw [← hr]; exact kX11_lay Y l (xs (nI k + 1).toNatClampNeg) v) rfl rfl rfl rfl (Nat.le_of_ble_eq_true rfl) (by decide) ?_
  refine q_Licmp_eq (tgt := 1418) eL_538 (by decide) ?_
  exact kk u1 v1 hI1
theorem tb_890 : Cond.methodLink R_law 55 mX10_strike.2.1 ∈ q_tb := ch_4 _ (List.mem_of_getElem? (i := 47) rfl) rfl
theorem tb_891 : Cond.instanceMethod mX10_strike.2.1 ∈ q_tb := ch_4 _ (List.mem_of_getElem? (i := 48) rfl) rfl
theorem tb_892 : Cond.selects mX10_strike.2.1.cls mX10_strike.2.1 mX10_strike.2.1 ∈ q_tb := ch_4 _ (List.mem_of_getElem? (i := 49) rfl) rfl
theorem tb_893 : Cond.code mX10_strike.2.1 mX10_strike.2.2.1 mX10_strike.2.2.2.1 mX10_strike.2.2.2.2 ∈ q_tb := ch_4 _ (List.mem_of_getElem? (i := 50) rfl) rfl
theorem cv_L_55 : q_CV R_law 55 mX10_strike 1 := ⟨tb_890, tb_891, tb_892, tb_124, tb_893, ⟨by decide +kernel, by decide +kernel, by decide +kernel⟩, by decide⟩
theorem tb_1796 : Cond.methodLink R_law 58 mX11_strike.2.1 ∈ q_tb := ch_7 _ (List.mem_of_getElem? (i := 233) rfl) rfl
theorem tb_1797 : Cond.instanceMethod mX11_strike.2.1 ∈ q_tb := ch_7 _ (List.mem_of_getElem? (i := 234) rfl) rfl
theorem tb_1798 : Cond.selects mX11_strike.2.1.cls mX11_strike.2.1 mX11_strike.2.1 ∈ q_tb := ch_7 _ (List.mem_of_getElem? (i := 235) rfl) rfl
theorem tb_1799 : Cond.code mX11_strike.2.1 mX11_strike.2.2.1 mX11_strike.2.2.2.1 mX11_strike.2.2.2.2 ∈ q_tb := ch_7 _ (List.mem_of_getElem? (i := 236) rfl) rfl
theorem cv_L_58 : q_CV R_law 58 mX11_strike 1 := ⟨tb_1796, tb_1797, tb_1798, tb_140, tb_1799, ⟨by decide +kernel, by decide +kernel, by decide +kernel⟩, by decide⟩
def q_sim_strike (I : q_W → q_W → Prop) : Prop := ∀ (a1 : Int32) (u v : q_W), I u v → ∃ (r : Int32) (u1 v1 : q_W), fX10_strike a1 u = some (r, u1) ∧ fX11_strike a1 v = some (r, v1) ∧ I u1 v1
theorem law_9 (l : Launch) (X Y : q_X) (b L k : Nat) (xs : Nat → Int32) (I : q_W → q_W → Prop) (u v : q_W) (hsim : q_sim_strike I) (hI : I u v) (hin1 : vp_in (nI k + 1) L) (hin2 : vp_in (nI k + 2) L) (hin3 : vp_in (nI k + 3) L) (hin4 : vp_in (nI k + 4) L) (hin5 : vp_in (nI k + 5) L) (hin6 : vp_in (nI k + 6) L) (kk : ∀ u1 v1, I u1 v1 → q_LJ l X Y b L xs 1418 [(3, .int (nI k)), (0, .ref b), (1, .ref (X.2.2 0)), (2, .ref (Y.2.2 0))] [] u1 v1) : q_LJ l X Y b L xs 543 [(3, .int (nI k)), (0, .ref b), (1, .ref (X.2.2 0)), (2, .ref (Y.2.2 0))] [] u v := by
  obtain ⟨r, u1, v1, hc, hr, hI1⟩ := hsim (xs (nI k + 1).toNatClampNeg) u v hI
  refine q_Laload_n 2 eL_543 rfl rfl ?_
  refine q_Laload_n 1 eL_544 rfl rfl ?_
  refine q_Liload_n 0 eL_545 rfl rfl ?_
  refine q_Liconst (a := 1) eL_546 kiconst_1 ?_
  refine q_Liadd eL_547 ?_
  refine q_Lsld eL_548 hin1 ?_
  refine q_LcallC (As := [.int (xs (nI k + 1).toNatClampNeg)]) (st := []) eL_549 cv_L_55 (by rw [← hc]; exact kX10_strike X l (xs (nI k + 1).toNatClampNeg) u) rfl rfl rfl rfl (Nat.le_of_ble_eq_true rfl) (by decide) ?_
  refine q_Laload_n 3 eL_552 rfl rfl ?_
  refine q_Laload_n 1 eL_553 rfl rfl ?_
  refine q_Liload_n 0 eL_554 rfl rfl ?_
  refine q_Liconst (a := 1) eL_555 kiconst_1 ?_
  refine q_Liadd eL_556 ?_
  refine q_Lsld eL_557 hin1 ?_
  refine q_LcallR (As := [.int (xs (nI k + 1).toNatClampNeg)]) (st := [.int r]) eL_558 cv_L_58 (by rw [← hr]; exact kX11_strike Y l (xs (nI k + 1).toNatClampNeg) v) rfl rfl rfl rfl (Nat.le_of_ble_eq_true rfl) (by decide) ?_
  refine q_Licmp_eq (tgt := 1418) eL_561 (by decide) ?_
  exact kk u1 v1 hI1
theorem tb_910 : Cond.methodLink R_law 59 mX10_run.2.1 ∈ q_tb := ch_4 _ (List.mem_of_getElem? (i := 67) rfl) rfl
theorem tb_911 : Cond.instanceMethod mX10_run.2.1 ∈ q_tb := ch_4 _ (List.mem_of_getElem? (i := 68) rfl) rfl
theorem tb_912 : Cond.selects mX10_run.2.1.cls mX10_run.2.1 mX10_run.2.1 ∈ q_tb := ch_4 _ (List.mem_of_getElem? (i := 69) rfl) rfl
theorem tb_913 : Cond.code mX10_run.2.1 mX10_run.2.2.1 mX10_run.2.2.2.1 mX10_run.2.2.2.2 ∈ q_tb := ch_4 _ (List.mem_of_getElem? (i := 70) rfl) rfl
theorem cv_L_59 : q_CV R_law 59 mX10_run 3 := ⟨tb_910, tb_911, tb_912, tb_124, tb_913, ⟨by decide +kernel, by decide +kernel, by decide +kernel⟩, by decide⟩
theorem tb_1800 : Cond.methodLink R_law 62 mX11_run.2.1 ∈ q_tb := ch_7 _ (List.mem_of_getElem? (i := 237) rfl) rfl
theorem tb_1801 : Cond.instanceMethod mX11_run.2.1 ∈ q_tb := ch_7 _ (List.mem_of_getElem? (i := 238) rfl) rfl
theorem tb_1802 : Cond.selects mX11_run.2.1.cls mX11_run.2.1 mX11_run.2.1 ∈ q_tb := ch_7 _ (List.mem_of_getElem? (i := 239) rfl) rfl
theorem tb_1803 : Cond.code mX11_run.2.1 mX11_run.2.2.1 mX11_run.2.2.2.1 mX11_run.2.2.2.2 ∈ q_tb := ch_8 _ (List.mem_of_getElem? (i := 0) rfl) rfl
theorem cv_L_62 : q_CV R_law 62 mX11_run 3 := ⟨tb_1800, tb_1801, tb_1802, tb_140, tb_1803, ⟨by decide +kernel, by decide +kernel, by decide +kernel⟩, by decide⟩
def q_sim_run (I : q_W → q_W → Prop) : Prop := ∀ (a1 a2 a3 : Int32) (u v : q_W), I u v → ∃ (r : Int32) (u1 v1 : q_W), fX10_run a1 a2 a3 u = some (r, u1) ∧ fX11_run a1 a2 a3 v = some (r, v1) ∧ I u1 v1
theorem law_10 (l : Launch) (X Y : q_X) (b L k : Nat) (xs : Nat → Int32) (I : q_W → q_W → Prop) (u v : q_W) (hsim : q_sim_run I) (hI : I u v) (hin1 : vp_in (nI k + 1) L) (hin2 : vp_in (nI k + 2) L) (hin3 : vp_in (nI k + 3) L) (hin4 : vp_in (nI k + 4) L) (hin5 : vp_in (nI k + 5) L) (hin6 : vp_in (nI k + 6) L) (kk : ∀ u1 v1, I u1 v1 → q_LJ l X Y b L xs 1418 [(3, .int (nI k)), (0, .ref b), (1, .ref (X.2.2 0)), (2, .ref (Y.2.2 0))] [] u1 v1) : q_LJ l X Y b L xs 566 [(3, .int (nI k)), (0, .ref b), (1, .ref (X.2.2 0)), (2, .ref (Y.2.2 0))] [] u v := by
  obtain ⟨r, u1, v1, hc, hr, hI1⟩ := hsim (xs (nI k + 1).toNatClampNeg) (xs (nI k + 2).toNatClampNeg) (xs (nI k + 3).toNatClampNeg) u v hI
  refine q_Laload_n 2 eL_566 rfl rfl ?_
  refine q_Laload_n 1 eL_567 rfl rfl ?_
  refine q_Liload_n 0 eL_568 rfl rfl ?_
  refine q_Liconst (a := 1) eL_569 kiconst_1 ?_
  refine q_Liadd eL_570 ?_
  refine q_Lsld eL_571 hin1 ?_
  refine q_Laload_n 1 eL_572 rfl rfl ?_
  refine q_Liload_n 0 eL_573 rfl rfl ?_
  refine q_Liconst (a := 2) eL_574 kiconst_2 ?_
  refine q_Liadd eL_575 ?_
  refine q_Lsld eL_576 hin2 ?_
  refine q_Laload_n 1 eL_577 rfl rfl ?_
  refine q_Liload_n 0 eL_578 rfl rfl ?_
  refine q_Liconst (a := 3) eL_579 kiconst_3 ?_
  refine q_Liadd eL_580 ?_
  refine q_Lsld eL_581 hin3 ?_
  refine q_LcallC (As := [.int (xs (nI k + 1).toNatClampNeg), .int (xs (nI k + 2).toNatClampNeg), .int (xs (nI k + 3).toNatClampNeg)]) (st := []) eL_582 cv_L_59 (by rw [← hc]; exact kX10_run X l (xs (nI k + 1).toNatClampNeg) (xs (nI k + 2).toNatClampNeg) (xs (nI k + 3).toNatClampNeg) u) rfl rfl rfl rfl (Nat.le_of_ble_eq_true rfl) (by decide) ?_
  refine q_Laload_n 3 eL_585 rfl rfl ?_
  refine q_Laload_n 1 eL_586 rfl rfl ?_
  refine q_Liload_n 0 eL_587 rfl rfl ?_
  refine q_Liconst (a := 1) eL_588 kiconst_1 ?_
  refine q_Liadd eL_589 ?_
  refine q_Lsld eL_590 hin1 ?_
  refine q_Laload_n 1 eL_591 rfl rfl ?_
  refine q_Liload_n 0 eL_592 rfl rfl ?_
  refine q_Liconst (a := 2) eL_593 kiconst_2 ?_
  refine q_Liadd eL_594 ?_
  refine q_Lsld eL_595 hin2 ?_
  refine q_Laload_n 1 eL_596 rfl rfl ?_
  refine q_Liload_n 0 eL_597 rfl rfl ?_
  refine q_Liconst (a := 3) eL_598 kiconst_3 ?_
  refine q_Liadd eL_599 ?_
  refine q_Lsld eL_600 hin3 ?_
  refine q_LcallR (As := [.int (xs (nI k + 1).toNatClampNeg), .int (xs (nI k + 2).toNatClampNeg), .int (xs (nI k + 3).toNatClampNeg)]) (st := [.int r]) eL_601 cv_L_62 (by rw [← hr]; exact kX11_run Y l (xs (nI k + 1).toNatClampNeg) (xs (nI k + 2).toNatClampNeg) (xs (nI k + 3).toNatClampNeg) v) rfl rfl rfl rfl (Nat.le_of_ble_eq_true rfl) (by decide) ?_
  refine q_Licmp_eq (tgt := 1418) eL_604 (by decide) ?_
  exact kk u1 v1 hI1
theorem tb_1031 : Cond.methodLink R_law 63 mX10_broke.2.1 ∈ q_tb := ch_4 _ (List.mem_of_getElem? (i := 188) rfl) rfl
theorem tb_1032 : Cond.instanceMethod mX10_broke.2.1 ∈ q_tb := ch_4 _ (List.mem_of_getElem? (i := 189) rfl) rfl
theorem tb_1033 : Cond.selects mX10_broke.2.1.cls mX10_broke.2.1 mX10_broke.2.1 ∈ q_tb := ch_4 _ (List.mem_of_getElem? (i := 190) rfl) rfl
theorem tb_1034 : Cond.code mX10_broke.2.1 mX10_broke.2.2.1 mX10_broke.2.2.2.1 mX10_broke.2.2.2.2 ∈ q_tb := ch_4 _ (List.mem_of_getElem? (i := 191) rfl) rfl
theorem cv_L_63 : q_CV R_law 63 mX10_broke 0 := ⟨tb_1031, tb_1032, tb_1033, tb_124, tb_1034, ⟨by decide +kernel, by decide +kernel, by decide +kernel⟩, by decide⟩
theorem tb_1824 : Cond.methodLink R_law 66 mX11_broke.2.1 ∈ q_tb := ch_8 _ (List.mem_of_getElem? (i := 21) rfl) rfl
theorem tb_1825 : Cond.instanceMethod mX11_broke.2.1 ∈ q_tb := ch_8 _ (List.mem_of_getElem? (i := 22) rfl) rfl
theorem tb_1826 : Cond.selects mX11_broke.2.1.cls mX11_broke.2.1 mX11_broke.2.1 ∈ q_tb := ch_8 _ (List.mem_of_getElem? (i := 23) rfl) rfl
theorem tb_1827 : Cond.code mX11_broke.2.1 mX11_broke.2.2.1 mX11_broke.2.2.2.1 mX11_broke.2.2.2.2 ∈ q_tb := ch_8 _ (List.mem_of_getElem? (i := 24) rfl) rfl
theorem cv_L_66 : q_CV R_law 66 mX11_broke 0 := ⟨tb_1824, tb_1825, tb_1826, tb_140, tb_1827, ⟨by decide +kernel, by decide +kernel, by decide +kernel⟩, by decide⟩
def q_sim_broke (I : q_W → q_W → Prop) : Prop := ∀ (u v : q_W), I u v → ∃ (r : Int32) (u1 v1 : q_W), fX10_broke u = some (r, u1) ∧ fX11_broke v = some (r, v1) ∧ I u1 v1
theorem law_11 (l : Launch) (X Y : q_X) (b L k : Nat) (xs : Nat → Int32) (I : q_W → q_W → Prop) (u v : q_W) (hsim : q_sim_broke I) (hI : I u v) (hin1 : vp_in (nI k + 1) L) (hin2 : vp_in (nI k + 2) L) (hin3 : vp_in (nI k + 3) L) (hin4 : vp_in (nI k + 4) L) (hin5 : vp_in (nI k + 5) L) (hin6 : vp_in (nI k + 6) L) (kk : ∀ u1 v1, I u1 v1 → q_LJ l X Y b L xs 1418 [(3, .int (nI k)), (0, .ref b), (1, .ref (X.2.2 0)), (2, .ref (Y.2.2 0))] [] u1 v1) : q_LJ l X Y b L xs 609 [(3, .int (nI k)), (0, .ref b), (1, .ref (X.2.2 0)), (2, .ref (Y.2.2 0))] [] u v := by
  obtain ⟨r, u1, v1, hc, hr, hI1⟩ := hsim  u v hI
  refine q_Laload_n 2 eL_609 rfl rfl ?_
  refine q_LcallC (As := []) (st := []) eL_610 cv_L_63 (by rw [← hc]; exact kX10_broke X l  u) rfl rfl rfl rfl (Nat.le_of_ble_eq_true rfl) (by decide) ?_
  refine q_Laload_n 3 eL_613 rfl rfl ?_
  refine q_LcallR (As := []) (st := [.int r]) eL_614 cv_L_66 (by rw [← hr]; exact kX11_broke Y l  v) rfl rfl rfl rfl (Nat.le_of_ble_eq_true rfl) (by decide) ?_
  refine q_Licmp_eq (tgt := 1418) eL_617 (by decide) ?_
  exact kk u1 v1 hI1
theorem tb_1035 : Cond.methodLink R_law 67 mX10_where.2.1 ∈ q_tb := ch_4 _ (List.mem_of_getElem? (i := 192) rfl) rfl
theorem tb_1036 : Cond.instanceMethod mX10_where.2.1 ∈ q_tb := ch_4 _ (List.mem_of_getElem? (i := 193) rfl) rfl
theorem tb_1037 : Cond.selects mX10_where.2.1.cls mX10_where.2.1 mX10_where.2.1 ∈ q_tb := ch_4 _ (List.mem_of_getElem? (i := 194) rfl) rfl
theorem tb_1038 : Cond.code mX10_where.2.1 mX10_where.2.2.1 mX10_where.2.2.2.1 mX10_where.2.2.2.2 ∈ q_tb := ch_4 _ (List.mem_of_getElem? (i := 195) rfl) rfl
theorem cv_L_67 : q_CV R_law 67 mX10_where 0 := ⟨tb_1035, tb_1036, tb_1037, tb_124, tb_1038, ⟨by decide +kernel, by decide +kernel, by decide +kernel⟩, by decide⟩
theorem tb_1828 : Cond.methodLink R_law 70 mX11_where.2.1 ∈ q_tb := ch_8 _ (List.mem_of_getElem? (i := 25) rfl) rfl
theorem tb_1829 : Cond.instanceMethod mX11_where.2.1 ∈ q_tb := ch_8 _ (List.mem_of_getElem? (i := 26) rfl) rfl
theorem tb_1830 : Cond.selects mX11_where.2.1.cls mX11_where.2.1 mX11_where.2.1 ∈ q_tb := ch_8 _ (List.mem_of_getElem? (i := 27) rfl) rfl
theorem tb_1831 : Cond.code mX11_where.2.1 mX11_where.2.2.1 mX11_where.2.2.2.1 mX11_where.2.2.2.2 ∈ q_tb := ch_8 _ (List.mem_of_getElem? (i := 28) rfl) rfl
theorem cv_L_70 : q_CV R_law 70 mX11_where 0 := ⟨tb_1828, tb_1829, tb_1830, tb_140, tb_1831, ⟨by decide +kernel, by decide +kernel, by decide +kernel⟩, by decide⟩
def q_sim_where (I : q_W → q_W → Prop) : Prop := ∀ (u v : q_W), I u v → ∃ (r : Int32) (u1 v1 : q_W), fX10_where u = some (r, u1) ∧ fX11_where v = some (r, v1) ∧ I u1 v1
theorem law_12 (l : Launch) (X Y : q_X) (b L k : Nat) (xs : Nat → Int32) (I : q_W → q_W → Prop) (u v : q_W) (hsim : q_sim_where I) (hI : I u v) (hin1 : vp_in (nI k + 1) L) (hin2 : vp_in (nI k + 2) L) (hin3 : vp_in (nI k + 3) L) (hin4 : vp_in (nI k + 4) L) (hin5 : vp_in (nI k + 5) L) (hin6 : vp_in (nI k + 6) L) (kk : ∀ u1 v1, I u1 v1 → q_LJ l X Y b L xs 1418 [(3, .int (nI k)), (0, .ref b), (1, .ref (X.2.2 0)), (2, .ref (Y.2.2 0))] [] u1 v1) : q_LJ l X Y b L xs 622 [(3, .int (nI k)), (0, .ref b), (1, .ref (X.2.2 0)), (2, .ref (Y.2.2 0))] [] u v := by
  obtain ⟨r, u1, v1, hc, hr, hI1⟩ := hsim  u v hI
  refine q_Laload_n 2 eL_622 rfl rfl ?_
  refine q_LcallC (As := []) (st := []) eL_623 cv_L_67 (by rw [← hc]; exact kX10_where X l  u) rfl rfl rfl rfl (Nat.le_of_ble_eq_true rfl) (by decide) ?_
  refine q_Laload_n 3 eL_626 rfl rfl ?_
  refine q_LcallR (As := []) (st := [.int r]) eL_627 cv_L_70 (by rw [← hr]; exact kX11_where Y l  v) rfl rfl rfl rfl (Nat.le_of_ble_eq_true rfl) (by decide) ?_
  refine q_Licmp_eq (tgt := 1418) eL_630 (by decide) ?_
  exact kk u1 v1 hI1
theorem tb_1039 : Cond.methodLink R_law 71 mX10_parameters.2.1 ∈ q_tb := ch_4 _ (List.mem_of_getElem? (i := 196) rfl) rfl
theorem tb_1040 : Cond.instanceMethod mX10_parameters.2.1 ∈ q_tb := ch_4 _ (List.mem_of_getElem? (i := 197) rfl) rfl
theorem tb_1041 : Cond.selects mX10_parameters.2.1.cls mX10_parameters.2.1 mX10_parameters.2.1 ∈ q_tb := ch_4 _ (List.mem_of_getElem? (i := 198) rfl) rfl
theorem tb_1042 : Cond.code mX10_parameters.2.1 mX10_parameters.2.2.1 mX10_parameters.2.2.2.1 mX10_parameters.2.2.2.2 ∈ q_tb := ch_4 _ (List.mem_of_getElem? (i := 199) rfl) rfl
theorem cv_L_71 : q_CV R_law 71 mX10_parameters 1 := ⟨tb_1039, tb_1040, tb_1041, tb_124, tb_1042, ⟨by decide +kernel, by decide +kernel, by decide +kernel⟩, by decide⟩
theorem tb_1832 : Cond.methodLink R_law 74 mX11_parameters.2.1 ∈ q_tb := ch_8 _ (List.mem_of_getElem? (i := 29) rfl) rfl
theorem tb_1833 : Cond.instanceMethod mX11_parameters.2.1 ∈ q_tb := ch_8 _ (List.mem_of_getElem? (i := 30) rfl) rfl
theorem tb_1834 : Cond.selects mX11_parameters.2.1.cls mX11_parameters.2.1 mX11_parameters.2.1 ∈ q_tb := ch_8 _ (List.mem_of_getElem? (i := 31) rfl) rfl
theorem tb_1835 : Cond.code mX11_parameters.2.1 mX11_parameters.2.2.1 mX11_parameters.2.2.2.1 mX11_parameters.2.2.2.2 ∈ q_tb := ch_8 _ (List.mem_of_getElem? (i := 32) rfl) rfl
theorem cv_L_74 : q_CV R_law 74 mX11_parameters 1 := ⟨tb_1832, tb_1833, tb_1834, tb_140, tb_1835, ⟨by decide +kernel, by decide +kernel, by decide +kernel⟩, by decide⟩
def q_sim_parameters (I : q_W → q_W → Prop) : Prop := ∀ (a1 : Int32) (u v : q_W), I u v → ∃ (r : Int32) (u1 v1 : q_W), fX10_parameters a1 u = some (r, u1) ∧ fX11_parameters a1 v = some (r, v1) ∧ I u1 v1
theorem law_13 (l : Launch) (X Y : q_X) (b L k : Nat) (xs : Nat → Int32) (I : q_W → q_W → Prop) (u v : q_W) (hsim : q_sim_parameters I) (hI : I u v) (hin1 : vp_in (nI k + 1) L) (hin2 : vp_in (nI k + 2) L) (hin3 : vp_in (nI k + 3) L) (hin4 : vp_in (nI k + 4) L) (hin5 : vp_in (nI k + 5) L) (hin6 : vp_in (nI k + 6) L) (kk : ∀ u1 v1, I u1 v1 → q_LJ l X Y b L xs 1418 [(3, .int (nI k)), (0, .ref b), (1, .ref (X.2.2 0)), (2, .ref (Y.2.2 0))] [] u1 v1) : q_LJ l X Y b L xs 635 [(3, .int (nI k)), (0, .ref b), (1, .ref (X.2.2 0)), (2, .ref (Y.2.2 0))] [] u v := by
  obtain ⟨r, u1, v1, hc, hr, hI1⟩ := hsim (xs (nI k + 1).toNatClampNeg) u v hI
  refine q_Laload_n 2 eL_635 rfl rfl ?_
  refine q_Laload_n 1 eL_636 rfl rfl ?_
  refine q_Liload_n 0 eL_637 rfl rfl ?_
  refine q_Liconst (a := 1) eL_638 kiconst_1 ?_
  refine q_Liadd eL_639 ?_
  refine q_Lsld eL_640 hin1 ?_
  refine q_LcallC (As := [.int (xs (nI k + 1).toNatClampNeg)]) (st := []) eL_641 cv_L_71 (by rw [← hc]; exact kX10_parameters X l (xs (nI k + 1).toNatClampNeg) u) rfl rfl rfl rfl (Nat.le_of_ble_eq_true rfl) (by decide) ?_
  refine q_Laload_n 3 eL_644 rfl rfl ?_
  refine q_Laload_n 1 eL_645 rfl rfl ?_
  refine q_Liload_n 0 eL_646 rfl rfl ?_
  refine q_Liconst (a := 1) eL_647 kiconst_1 ?_
  refine q_Liadd eL_648 ?_
  refine q_Lsld eL_649 hin1 ?_
  refine q_LcallR (As := [.int (xs (nI k + 1).toNatClampNeg)]) (st := [.int r]) eL_650 cv_L_74 (by rw [← hr]; exact kX11_parameters Y l (xs (nI k + 1).toNatClampNeg) v) rfl rfl rfl rfl (Nat.le_of_ble_eq_true rfl) (by decide) ?_
  refine q_Licmp_eq (tgt := 1418) eL_653 (by decide) ?_
  exact kk u1 v1 hI1
theorem tb_1044 : Cond.methodLink R_law 75 mX10_kind.2.1 ∈ q_tb := ch_4 _ (List.mem_of_getElem? (i := 201) rfl) rfl
theorem tb_1045 : Cond.instanceMethod mX10_kind.2.1 ∈ q_tb := ch_4 _ (List.mem_of_getElem? (i := 202) rfl) rfl
theorem tb_1046 : Cond.selects mX10_kind.2.1.cls mX10_kind.2.1 mX10_kind.2.1 ∈ q_tb := ch_4 _ (List.mem_of_getElem? (i := 203) rfl) rfl
theorem tb_1047 : Cond.code mX10_kind.2.1 mX10_kind.2.2.1 mX10_kind.2.2.2.1 mX10_kind.2.2.2.2 ∈ q_tb := ch_4 _ (List.mem_of_getElem? (i := 204) rfl) rfl
theorem cv_L_75 : q_CV R_law 75 mX10_kind 1 := ⟨tb_1044, tb_1045, tb_1046, tb_124, tb_1047, ⟨by decide +kernel, by decide +kernel, by decide +kernel⟩, by decide⟩
theorem tb_1836 : Cond.methodLink R_law 78 mX11_kind.2.1 ∈ q_tb := ch_8 _ (List.mem_of_getElem? (i := 33) rfl) rfl
theorem tb_1837 : Cond.instanceMethod mX11_kind.2.1 ∈ q_tb := ch_8 _ (List.mem_of_getElem? (i := 34) rfl) rfl
theorem tb_1838 : Cond.selects mX11_kind.2.1.cls mX11_kind.2.1 mX11_kind.2.1 ∈ q_tb := ch_8 _ (List.mem_of_getElem? (i := 35) rfl) rfl
theorem tb_1839 : Cond.code mX11_kind.2.1 mX11_kind.2.2.1 mX11_kind.2.2.2.1 mX11_kind.2.2.2.2 ∈ q_tb := ch_8 _ (List.mem_of_getElem? (i := 36) rfl) rfl
theorem cv_L_78 : q_CV R_law 78 mX11_kind 1 := ⟨tb_1836, tb_1837, tb_1838, tb_140, tb_1839, ⟨by decide +kernel, by decide +kernel, by decide +kernel⟩, by decide⟩
def q_sim_kind (I : q_W → q_W → Prop) : Prop := ∀ (a1 : Int32) (u v : q_W), I u v → ∃ (r : Int32) (u1 v1 : q_W), fX10_kind a1 u = some (r, u1) ∧ fX11_kind a1 v = some (r, v1) ∧ I u1 v1
theorem law_14 (l : Launch) (X Y : q_X) (b L k : Nat) (xs : Nat → Int32) (I : q_W → q_W → Prop) (u v : q_W) (hsim : q_sim_kind I) (hI : I u v) (hin1 : vp_in (nI k + 1) L) (hin2 : vp_in (nI k + 2) L) (hin3 : vp_in (nI k + 3) L) (hin4 : vp_in (nI k + 4) L) (hin5 : vp_in (nI k + 5) L) (hin6 : vp_in (nI k + 6) L) (kk : ∀ u1 v1, I u1 v1 → q_LJ l X Y b L xs 1418 [(3, .int (nI k)), (0, .ref b), (1, .ref (X.2.2 0)), (2, .ref (Y.2.2 0))] [] u1 v1) : q_LJ l X Y b L xs 658 [(3, .int (nI k)), (0, .ref b), (1, .ref (X.2.2 0)), (2, .ref (Y.2.2 0))] [] u v := by
  obtain ⟨r, u1, v1, hc, hr, hI1⟩ := hsim (xs (nI k + 1).toNatClampNeg) u v hI
  refine q_Laload_n 2 eL_658 rfl rfl ?_
  refine q_Laload_n 1 eL_659 rfl rfl ?_
  refine q_Liload_n 0 eL_660 rfl rfl ?_
  refine q_Liconst (a := 1) eL_661 kiconst_1 ?_
  refine q_Liadd eL_662 ?_
  refine q_Lsld eL_663 hin1 ?_
  refine q_LcallC (As := [.int (xs (nI k + 1).toNatClampNeg)]) (st := []) eL_664 cv_L_75 (by rw [← hc]; exact kX10_kind X l (xs (nI k + 1).toNatClampNeg) u) rfl rfl rfl rfl (Nat.le_of_ble_eq_true rfl) (by decide) ?_
  refine q_Laload_n 3 eL_667 rfl rfl ?_
  refine q_Laload_n 1 eL_668 rfl rfl ?_
  refine q_Liload_n 0 eL_669 rfl rfl ?_
  refine q_Liconst (a := 1) eL_670 kiconst_1 ?_
  refine q_Liadd eL_671 ?_
  refine q_Lsld eL_672 hin1 ?_
  refine q_LcallR (As := [.int (xs (nI k + 1).toNatClampNeg)]) (st := [.int r]) eL_673 cv_L_78 (by rw [← hr]; exact kX11_kind Y l (xs (nI k + 1).toNatClampNeg) v) rfl rfl rfl rfl (Nat.le_of_ble_eq_true rfl) (by decide) ?_
  refine q_Licmp_eq (tgt := 1418) eL_676 (by decide) ?_
  exact kk u1 v1 hI1
theorem tb_1054 : Cond.methodLink R_law 79 mX10_number.2.1 ∈ q_tb := ch_4 _ (List.mem_of_getElem? (i := 211) rfl) rfl
theorem tb_1055 : Cond.instanceMethod mX10_number.2.1 ∈ q_tb := ch_4 _ (List.mem_of_getElem? (i := 212) rfl) rfl
theorem tb_1056 : Cond.selects mX10_number.2.1.cls mX10_number.2.1 mX10_number.2.1 ∈ q_tb := ch_4 _ (List.mem_of_getElem? (i := 213) rfl) rfl
theorem tb_1057 : Cond.code mX10_number.2.1 mX10_number.2.2.1 mX10_number.2.2.2.1 mX10_number.2.2.2.2 ∈ q_tb := ch_4 _ (List.mem_of_getElem? (i := 214) rfl) rfl
theorem cv_L_79 : q_CV R_law 79 mX10_number 2 := ⟨tb_1054, tb_1055, tb_1056, tb_124, tb_1057, ⟨by decide +kernel, by decide +kernel, by decide +kernel⟩, by decide⟩
theorem tb_1844 : Cond.methodLink R_law 83 mX11_number.2.1 ∈ q_tb := ch_8 _ (List.mem_of_getElem? (i := 41) rfl) rfl
theorem tb_1845 : Cond.instanceMethod mX11_number.2.1 ∈ q_tb := ch_8 _ (List.mem_of_getElem? (i := 42) rfl) rfl
theorem tb_1846 : Cond.selects mX11_number.2.1.cls mX11_number.2.1 mX11_number.2.1 ∈ q_tb := ch_8 _ (List.mem_of_getElem? (i := 43) rfl) rfl
theorem tb_1847 : Cond.code mX11_number.2.1 mX11_number.2.2.1 mX11_number.2.2.2.1 mX11_number.2.2.2.2 ∈ q_tb := ch_8 _ (List.mem_of_getElem? (i := 44) rfl) rfl
theorem cv_L_83 : q_CV R_law 83 mX11_number 2 := ⟨tb_1844, tb_1845, tb_1846, tb_140, tb_1847, ⟨by decide +kernel, by decide +kernel, by decide +kernel⟩, by decide⟩
def q_sim_number (I : q_W → q_W → Prop) : Prop := ∀ (a1 a2 : Int32) (u v : q_W), I u v → ∃ (r : Int32) (u1 v1 : q_W), fX10_number a1 a2 u = some (r, u1) ∧ fX11_number a1 a2 v = some (r, v1) ∧ I u1 v1
theorem law_15 (l : Launch) (X Y : q_X) (b L k : Nat) (xs : Nat → Int32) (I : q_W → q_W → Prop) (u v : q_W) (hsim : q_sim_number I) (hI : I u v) (hin1 : vp_in (nI k + 1) L) (hin2 : vp_in (nI k + 2) L) (hin3 : vp_in (nI k + 3) L) (hin4 : vp_in (nI k + 4) L) (hin5 : vp_in (nI k + 5) L) (hin6 : vp_in (nI k + 6) L) (kk : ∀ u1 v1, I u1 v1 → q_LJ l X Y b L xs 1418 [(3, .int (nI k)), (0, .ref b), (1, .ref (X.2.2 0)), (2, .ref (Y.2.2 0))] [] u1 v1) : q_LJ l X Y b L xs 681 [(3, .int (nI k)), (0, .ref b), (1, .ref (X.2.2 0)), (2, .ref (Y.2.2 0))] [] u v := by
  obtain ⟨r, u1, v1, hc, hr, hI1⟩ := hsim (xs (nI k + 1).toNatClampNeg) (xs (nI k + 2).toNatClampNeg) u v hI
  refine q_Laload_n 2 eL_681 rfl rfl ?_
  refine q_Laload_n 1 eL_682 rfl rfl ?_
  refine q_Liload_n 0 eL_683 rfl rfl ?_
  refine q_Liconst (a := 1) eL_684 kiconst_1 ?_
  refine q_Liadd eL_685 ?_
  refine q_Lsld eL_686 hin1 ?_
  refine q_Laload_n 1 eL_687 rfl rfl ?_
  refine q_Liload_n 0 eL_688 rfl rfl ?_
  refine q_Liconst (a := 2) eL_689 kiconst_2 ?_
  refine q_Liadd eL_690 ?_
  refine q_Lsld eL_691 hin2 ?_
  refine q_LcallC (As := [.int (xs (nI k + 1).toNatClampNeg), .int (xs (nI k + 2).toNatClampNeg)]) (st := []) eL_692 cv_L_79 (by rw [← hc]; exact kX10_number X l (xs (nI k + 1).toNatClampNeg) (xs (nI k + 2).toNatClampNeg) u) rfl rfl rfl rfl (Nat.le_of_ble_eq_true rfl) (by decide) ?_
  refine q_Laload_n 3 eL_695 rfl rfl ?_
  refine q_Laload_n 1 eL_696 rfl rfl ?_
  refine q_Liload_n 0 eL_697 rfl rfl ?_
  refine q_Liconst (a := 1) eL_698 kiconst_1 ?_
  refine q_Liadd eL_699 ?_
  refine q_Lsld eL_700 hin1 ?_
  refine q_Laload_n 1 eL_701 rfl rfl ?_
  refine q_Liload_n 0 eL_702 rfl rfl ?_
  refine q_Liconst (a := 2) eL_703 kiconst_2 ?_
  refine q_Liadd eL_704 ?_
  refine q_Lsld eL_705 hin2 ?_
  refine q_LcallR (As := [.int (xs (nI k + 1).toNatClampNeg), .int (xs (nI k + 2).toNatClampNeg)]) (st := [.int r]) eL_706 cv_L_83 (by rw [← hr]; exact kX11_number Y l (xs (nI k + 1).toNatClampNeg) (xs (nI k + 2).toNatClampNeg) v) rfl rfl rfl rfl (Nat.le_of_ble_eq_true rfl) (by decide) ?_
  refine q_Licmp_eq (tgt := 1418) eL_709 (by decide) ?_
  exact kk u1 v1 hI1
theorem tb_1060 : Cond.methodLink R_law 84 mX10_struck.2.1 ∈ q_tb := ch_4 _ (List.mem_of_getElem? (i := 217) rfl) rfl
theorem tb_1061 : Cond.instanceMethod mX10_struck.2.1 ∈ q_tb := ch_4 _ (List.mem_of_getElem? (i := 218) rfl) rfl
theorem tb_1062 : Cond.selects mX10_struck.2.1.cls mX10_struck.2.1 mX10_struck.2.1 ∈ q_tb := ch_4 _ (List.mem_of_getElem? (i := 219) rfl) rfl
theorem tb_1063 : Cond.code mX10_struck.2.1 mX10_struck.2.2.1 mX10_struck.2.2.2.1 mX10_struck.2.2.2.2 ∈ q_tb := ch_4 _ (List.mem_of_getElem? (i := 220) rfl) rfl
theorem cv_L_84 : q_CV R_law 84 mX10_struck 2 := ⟨tb_1060, tb_1061, tb_1062, tb_124, tb_1063, ⟨by decide +kernel, by decide +kernel, by decide +kernel⟩, by decide⟩
theorem tb_1848 : Cond.methodLink R_law 87 mX11_struck.2.1 ∈ q_tb := ch_8 _ (List.mem_of_getElem? (i := 45) rfl) rfl
theorem tb_1849 : Cond.instanceMethod mX11_struck.2.1 ∈ q_tb := ch_8 _ (List.mem_of_getElem? (i := 46) rfl) rfl
theorem tb_1850 : Cond.selects mX11_struck.2.1.cls mX11_struck.2.1 mX11_struck.2.1 ∈ q_tb := ch_8 _ (List.mem_of_getElem? (i := 47) rfl) rfl
theorem tb_1851 : Cond.code mX11_struck.2.1 mX11_struck.2.2.1 mX11_struck.2.2.2.1 mX11_struck.2.2.2.2 ∈ q_tb := ch_8 _ (List.mem_of_getElem? (i := 48) rfl) rfl
theorem cv_L_87 : q_CV R_law 87 mX11_struck 2 := ⟨tb_1848, tb_1849, tb_1850, tb_140, tb_1851, ⟨by decide +kernel, by decide +kernel, by decide +kernel⟩, by decide⟩
def q_sim_struck (I : q_W → q_W → Prop) : Prop := ∀ (a1 a2 : Int32) (u v : q_W), I u v → ∃ (r : Int32) (u1 v1 : q_W), fX10_struck a1 a2 u = some (r, u1) ∧ fX11_struck a1 a2 v = some (r, v1) ∧ I u1 v1
theorem law_16 (l : Launch) (X Y : q_X) (b L k : Nat) (xs : Nat → Int32) (I : q_W → q_W → Prop) (u v : q_W) (hsim : q_sim_struck I) (hI : I u v) (hin1 : vp_in (nI k + 1) L) (hin2 : vp_in (nI k + 2) L) (hin3 : vp_in (nI k + 3) L) (hin4 : vp_in (nI k + 4) L) (hin5 : vp_in (nI k + 5) L) (hin6 : vp_in (nI k + 6) L) (kk : ∀ u1 v1, I u1 v1 → q_LJ l X Y b L xs 1418 [(3, .int (nI k)), (0, .ref b), (1, .ref (X.2.2 0)), (2, .ref (Y.2.2 0))] [] u1 v1) : q_LJ l X Y b L xs 714 [(3, .int (nI k)), (0, .ref b), (1, .ref (X.2.2 0)), (2, .ref (Y.2.2 0))] [] u v := by
  obtain ⟨r, u1, v1, hc, hr, hI1⟩ := hsim (xs (nI k + 1).toNatClampNeg) (xs (nI k + 2).toNatClampNeg) u v hI
  refine q_Laload_n 2 eL_714 rfl rfl ?_
  refine q_Laload_n 1 eL_715 rfl rfl ?_
  refine q_Liload_n 0 eL_716 rfl rfl ?_
  refine q_Liconst (a := 1) eL_717 kiconst_1 ?_
  refine q_Liadd eL_718 ?_
  refine q_Lsld eL_719 hin1 ?_
  refine q_Laload_n 1 eL_720 rfl rfl ?_
  refine q_Liload_n 0 eL_721 rfl rfl ?_
  refine q_Liconst (a := 2) eL_722 kiconst_2 ?_
  refine q_Liadd eL_723 ?_
  refine q_Lsld eL_724 hin2 ?_
  refine q_LcallC (As := [.int (xs (nI k + 1).toNatClampNeg), .int (xs (nI k + 2).toNatClampNeg)]) (st := []) eL_725 cv_L_84 (by rw [← hc]; exact kX10_struck X l (xs (nI k + 1).toNatClampNeg) (xs (nI k + 2).toNatClampNeg) u) rfl rfl rfl rfl (Nat.le_of_ble_eq_true rfl) (by decide) ?_
  refine q_Laload_n 3 eL_728 rfl rfl ?_
  refine q_Laload_n 1 eL_729 rfl rfl ?_
  refine q_Liload_n 0 eL_730 rfl rfl ?_
  refine q_Liconst (a := 1) eL_731 kiconst_1 ?_
  refine q_Liadd eL_732 ?_
  refine q_Lsld eL_733 hin1 ?_
  refine q_Laload_n 1 eL_734 rfl rfl ?_
  refine q_Liload_n 0 eL_735 rfl rfl ?_
  refine q_Liconst (a := 2) eL_736 kiconst_2 ?_
  refine q_Liadd eL_737 ?_
  refine q_Lsld eL_738 hin2 ?_
  refine q_LcallR (As := [.int (xs (nI k + 1).toNatClampNeg), .int (xs (nI k + 2).toNatClampNeg)]) (st := [.int r]) eL_739 cv_L_87 (by rw [← hr]; exact kX11_struck Y l (xs (nI k + 1).toNatClampNeg) (xs (nI k + 2).toNatClampNeg) v) rfl rfl rfl rfl (Nat.le_of_ble_eq_true rfl) (by decide) ?_
  refine q_Licmp_eq (tgt := 1418) eL_742 (by decide) ?_
  exact kk u1 v1 hI1
theorem tb_1081 : Cond.methodLink R_law 88 mX10_colour.2.1 ∈ q_tb := ch_4 _ (List.mem_of_getElem? (i := 238) rfl) rfl
theorem tb_1082 : Cond.instanceMethod mX10_colour.2.1 ∈ q_tb := ch_4 _ (List.mem_of_getElem? (i := 239) rfl) rfl
theorem tb_1083 : Cond.selects mX10_colour.2.1.cls mX10_colour.2.1 mX10_colour.2.1 ∈ q_tb := ch_5 _ (List.mem_of_getElem? (i := 0) rfl) rfl
theorem tb_1084 : Cond.code mX10_colour.2.1 mX10_colour.2.2.1 mX10_colour.2.2.2.1 mX10_colour.2.2.2.2 ∈ q_tb := ch_5 _ (List.mem_of_getElem? (i := 1) rfl) rfl
theorem cv_L_88 : q_CV R_law 88 mX10_colour 3 := ⟨tb_1081, tb_1082, tb_1083, tb_124, tb_1084, ⟨by decide +kernel, by decide +kernel, by decide +kernel⟩, by decide⟩
theorem tb_1860 : Cond.methodLink R_law 91 mX11_colour.2.1 ∈ q_tb := ch_8 _ (List.mem_of_getElem? (i := 57) rfl) rfl
theorem tb_1861 : Cond.instanceMethod mX11_colour.2.1 ∈ q_tb := ch_8 _ (List.mem_of_getElem? (i := 58) rfl) rfl
theorem tb_1862 : Cond.selects mX11_colour.2.1.cls mX11_colour.2.1 mX11_colour.2.1 ∈ q_tb := ch_8 _ (List.mem_of_getElem? (i := 59) rfl) rfl
theorem tb_1863 : Cond.code mX11_colour.2.1 mX11_colour.2.2.1 mX11_colour.2.2.2.1 mX11_colour.2.2.2.2 ∈ q_tb := ch_8 _ (List.mem_of_getElem? (i := 60) rfl) rfl
theorem cv_L_91 : q_CV R_law 91 mX11_colour 3 := ⟨tb_1860, tb_1861, tb_1862, tb_140, tb_1863, ⟨by decide +kernel, by decide +kernel, by decide +kernel⟩, by decide⟩
def q_sim_colour (I : q_W → q_W → Prop) : Prop := ∀ (a1 a2 a3 : Int32) (u v : q_W), I u v → ∃ (r : Int32) (u1 v1 : q_W), fX10_colour a1 a2 a3 u = some (r, u1) ∧ fX11_colour a1 a2 a3 v = some (r, v1) ∧ I u1 v1
theorem law_17 (l : Launch) (X Y : q_X) (b L k : Nat) (xs : Nat → Int32) (I : q_W → q_W → Prop) (u v : q_W) (hsim : q_sim_colour I) (hI : I u v) (hin1 : vp_in (nI k + 1) L) (hin2 : vp_in (nI k + 2) L) (hin3 : vp_in (nI k + 3) L) (hin4 : vp_in (nI k + 4) L) (hin5 : vp_in (nI k + 5) L) (hin6 : vp_in (nI k + 6) L) (kk : ∀ u1 v1, I u1 v1 → q_LJ l X Y b L xs 1418 [(3, .int (nI k)), (0, .ref b), (1, .ref (X.2.2 0)), (2, .ref (Y.2.2 0))] [] u1 v1) : q_LJ l X Y b L xs 747 [(3, .int (nI k)), (0, .ref b), (1, .ref (X.2.2 0)), (2, .ref (Y.2.2 0))] [] u v := by
  obtain ⟨r, u1, v1, hc, hr, hI1⟩ := hsim (xs (nI k + 1).toNatClampNeg) (xs (nI k + 2).toNatClampNeg) (xs (nI k + 3).toNatClampNeg) u v hI
  refine q_Laload_n 2 eL_747 rfl rfl ?_
  refine q_Laload_n 1 eL_748 rfl rfl ?_
  refine q_Liload_n 0 eL_749 rfl rfl ?_
  refine q_Liconst (a := 1) eL_750 kiconst_1 ?_
  refine q_Liadd eL_751 ?_
  refine q_Lsld eL_752 hin1 ?_
  refine q_Laload_n 1 eL_753 rfl rfl ?_
  refine q_Liload_n 0 eL_754 rfl rfl ?_
  refine q_Liconst (a := 2) eL_755 kiconst_2 ?_
  refine q_Liadd eL_756 ?_
  refine q_Lsld eL_757 hin2 ?_
  refine q_Laload_n 1 eL_758 rfl rfl ?_
  refine q_Liload_n 0 eL_759 rfl rfl ?_
  refine q_Liconst (a := 3) eL_760 kiconst_3 ?_
  refine q_Liadd eL_761 ?_
  refine q_Lsld eL_762 hin3 ?_
  refine q_LcallC (As := [.int (xs (nI k + 1).toNatClampNeg), .int (xs (nI k + 2).toNatClampNeg), .int (xs (nI k + 3).toNatClampNeg)]) (st := []) eL_763 cv_L_88 (by rw [← hc]; exact kX10_colour X l (xs (nI k + 1).toNatClampNeg) (xs (nI k + 2).toNatClampNeg) (xs (nI k + 3).toNatClampNeg) u) rfl rfl rfl rfl (Nat.le_of_ble_eq_true rfl) (by decide) ?_
  refine q_Laload_n 3 eL_766 rfl rfl ?_
  refine q_Laload_n 1 eL_767 rfl rfl ?_
  refine q_Liload_n 0 eL_768 rfl rfl ?_
  refine q_Liconst (a := 1) eL_769 kiconst_1 ?_
  refine q_Liadd eL_770 ?_
  refine q_Lsld eL_771 hin1 ?_
  refine q_Laload_n 1 eL_772 rfl rfl ?_
  refine q_Liload_n 0 eL_773 rfl rfl ?_
  refine q_Liconst (a := 2) eL_774 kiconst_2 ?_
  refine q_Liadd eL_775 ?_
  refine q_Lsld eL_776 hin2 ?_
  refine q_Laload_n 1 eL_777 rfl rfl ?_
  refine q_Liload_n 0 eL_778 rfl rfl ?_
  refine q_Liconst (a := 3) eL_779 kiconst_3 ?_
  refine q_Liadd eL_780 ?_
  refine q_Lsld eL_781 hin3 ?_
  refine q_LcallR (As := [.int (xs (nI k + 1).toNatClampNeg), .int (xs (nI k + 2).toNatClampNeg), .int (xs (nI k + 3).toNatClampNeg)]) (st := [.int r]) eL_782 cv_L_91 (by rw [← hr]; exact kX11_colour Y l (xs (nI k + 1).toNatClampNeg) (xs (nI k + 2).toNatClampNeg) (xs (nI k + 3).toNatClampNeg) v) rfl rfl rfl rfl (Nat.le_of_ble_eq_true rfl) (by decide) ?_
  refine q_Licmp_eq (tgt := 1418) eL_785 (by decide) ?_
  exact kk u1 v1 hI1
theorem tb_1156 : Cond.methodLink R_law 92 mX10_from.2.1 ∈ q_tb := ch_5 _ (List.mem_of_getElem? (i := 73) rfl) rfl
theorem tb_1157 : Cond.instanceMethod mX10_from.2.1 ∈ q_tb := ch_5 _ (List.mem_of_getElem? (i := 74) rfl) rfl
theorem tb_1158 : Cond.selects mX10_from.2.1.cls mX10_from.2.1 mX10_from.2.1 ∈ q_tb := ch_5 _ (List.mem_of_getElem? (i := 75) rfl) rfl
theorem tb_1159 : Cond.code mX10_from.2.1 mX10_from.2.2.1 mX10_from.2.2.2.1 mX10_from.2.2.2.2 ∈ q_tb := ch_5 _ (List.mem_of_getElem? (i := 76) rfl) rfl
theorem cv_L_92 : q_CV R_law 92 mX10_from 4 := ⟨tb_1156, tb_1157, tb_1158, tb_124, tb_1159, ⟨by decide +kernel, by decide +kernel, by decide +kernel⟩, by decide⟩
theorem tb_1897 : Cond.methodLink R_law 95 mX11_from.2.1 ∈ q_tb := ch_8 _ (List.mem_of_getElem? (i := 94) rfl) rfl
theorem tb_1898 : Cond.instanceMethod mX11_from.2.1 ∈ q_tb := ch_8 _ (List.mem_of_getElem? (i := 95) rfl) rfl
theorem tb_1899 : Cond.selects mX11_from.2.1.cls mX11_from.2.1 mX11_from.2.1 ∈ q_tb := ch_8 _ (List.mem_of_getElem? (i := 96) rfl) rfl
theorem tb_1900 : Cond.code mX11_from.2.1 mX11_from.2.2.1 mX11_from.2.2.2.1 mX11_from.2.2.2.2 ∈ q_tb := ch_8 _ (List.mem_of_getElem? (i := 97) rfl) rfl
theorem cv_L_95 : q_CV R_law 95 mX11_from 4 := ⟨tb_1897, tb_1898, tb_1899, tb_140, tb_1900, ⟨by decide +kernel, by decide +kernel, by decide +kernel⟩, by decide⟩
def q_sim_from (I : q_W → q_W → Prop) : Prop := ∀ (a1 a2 a3 a4 : Int32) (u v : q_W), I u v → ∃ (r : Int32) (u1 v1 : q_W), fX10_from a1 a2 a3 a4 u = some (r, u1) ∧ fX11_from a1 a2 a3 a4 v = some (r, v1) ∧ I u1 v1
theorem law_18 (l : Launch) (X Y : q_X) (b L k : Nat) (xs : Nat → Int32) (I : q_W → q_W → Prop) (u v : q_W) (hsim : q_sim_from I) (hI : I u v) (hin1 : vp_in (nI k + 1) L) (hin2 : vp_in (nI k + 2) L) (hin3 : vp_in (nI k + 3) L) (hin4 : vp_in (nI k + 4) L) (hin5 : vp_in (nI k + 5) L) (hin6 : vp_in (nI k + 6) L) (kk : ∀ u1 v1, I u1 v1 → q_LJ l X Y b L xs 1418 [(3, .int (nI k)), (0, .ref b), (1, .ref (X.2.2 0)), (2, .ref (Y.2.2 0))] [] u1 v1) : q_LJ l X Y b L xs 790 [(3, .int (nI k)), (0, .ref b), (1, .ref (X.2.2 0)), (2, .ref (Y.2.2 0))] [] u v := by
  obtain ⟨r, u1, v1, hc, hr, hI1⟩ := hsim (xs (nI k + 1).toNatClampNeg) (xs (nI k + 2).toNatClampNeg) (xs (nI k + 3).toNatClampNeg) (xs (nI k + 4).toNatClampNeg) u v hI
  refine q_Laload_n 2 eL_790 rfl rfl ?_
  refine q_Laload_n 1 eL_791 rfl rfl ?_
  refine q_Liload_n 0 eL_792 rfl rfl ?_
  refine q_Liconst (a := 1) eL_793 kiconst_1 ?_
  refine q_Liadd eL_794 ?_
  refine q_Lsld eL_795 hin1 ?_
  refine q_Laload_n 1 eL_796 rfl rfl ?_
  refine q_Liload_n 0 eL_797 rfl rfl ?_
  refine q_Liconst (a := 2) eL_798 kiconst_2 ?_
  refine q_Liadd eL_799 ?_
  refine q_Lsld eL_800 hin2 ?_
  refine q_Laload_n 1 eL_801 rfl rfl ?_
  refine q_Liload_n 0 eL_802 rfl rfl ?_
  refine q_Liconst (a := 3) eL_803 kiconst_3 ?_
  refine q_Liadd eL_804 ?_
  refine q_Lsld eL_805 hin3 ?_
  refine q_Laload_n 1 eL_806 rfl rfl ?_
  refine q_Liload_n 0 eL_807 rfl rfl ?_
  refine q_Liconst (a := 4) eL_808 kiconst_4 ?_
  refine q_Liadd eL_809 ?_
  refine q_Lsld eL_810 hin4 ?_
  refine q_LcallC (As := [.int (xs (nI k + 1).toNatClampNeg), .int (xs (nI k + 2).toNatClampNeg), .int (xs (nI k + 3).toNatClampNeg), .int (xs (nI k + 4).toNatClampNeg)]) (st := []) eL_811 cv_L_92 (by rw [← hc]; exact kX10_from X l (xs (nI k + 1).toNatClampNeg) (xs (nI k + 2).toNatClampNeg) (xs (nI k + 3).toNatClampNeg) (xs (nI k + 4).toNatClampNeg) u) rfl rfl rfl rfl (Nat.le_of_ble_eq_true rfl) (by decide) ?_
  refine q_Laload_n 3 eL_814 rfl rfl ?_
  refine q_Laload_n 1 eL_815 rfl rfl ?_
  refine q_Liload_n 0 eL_816 rfl rfl ?_
  refine q_Liconst (a := 1) eL_817 kiconst_1 ?_
  refine q_Liadd eL_818 ?_
  refine q_Lsld eL_819 hin1 ?_
  refine q_Laload_n 1 eL_820 rfl rfl ?_
  refine q_Liload_n 0 eL_821 rfl rfl ?_
  refine q_Liconst (a := 2) eL_822 kiconst_2 ?_
  refine q_Liadd eL_823 ?_
  refine q_Lsld eL_824 hin2 ?_
  refine q_Laload_n 1 eL_825 rfl rfl ?_
  refine q_Liload_n 0 eL_826 rfl rfl ?_
  refine q_Liconst (a := 3) eL_827 kiconst_3 ?_
  refine q_Liadd eL_828 ?_
  refine q_Lsld eL_829 hin3 ?_
  refine q_Laload_n 1 eL_830 rfl rfl ?_
  refine q_Liload_n 0 eL_831 rfl rfl ?_
  refine q_Liconst (a := 4) eL_832 kiconst_4 ?_
  refine q_Liadd eL_833 ?_
  refine q_Lsld eL_834 hin4 ?_
  refine q_LcallR (As := [.int (xs (nI k + 1).toNatClampNeg), .int (xs (nI k + 2).toNatClampNeg), .int (xs (nI k + 3).toNatClampNeg), .int (xs (nI k + 4).toNatClampNeg)]) (st := [.int r]) eL_835 cv_L_95 (by rw [← hr]; exact kX11_from Y l (xs (nI k + 1).toNatClampNeg) (xs (nI k + 2).toNatClampNeg) (xs (nI k + 3).toNatClampNeg) (xs (nI k + 4).toNatClampNeg) v) rfl rfl rfl rfl (Nat.le_of_ble_eq_true rfl) (by decide) ?_
  refine q_Licmp_eq (tgt := 1418) eL_838 (by decide) ?_
  exact kk u1 v1 hI1
theorem tb_1169 : Cond.methodLink R_law 96 mX10_to.2.1 ∈ q_tb := ch_5 _ (List.mem_of_getElem? (i := 86) rfl) rfl
theorem tb_1170 : Cond.instanceMethod mX10_to.2.1 ∈ q_tb := ch_5 _ (List.mem_of_getElem? (i := 87) rfl) rfl
theorem tb_1171 : Cond.selects mX10_to.2.1.cls mX10_to.2.1 mX10_to.2.1 ∈ q_tb := ch_5 _ (List.mem_of_getElem? (i := 88) rfl) rfl
theorem tb_1172 : Cond.code mX10_to.2.1 mX10_to.2.2.1 mX10_to.2.2.2.1 mX10_to.2.2.2.2 ∈ q_tb := ch_5 _ (List.mem_of_getElem? (i := 89) rfl) rfl
theorem cv_L_96 : q_CV R_law 96 mX10_to 4 := ⟨tb_1169, tb_1170, tb_1171, tb_124, tb_1172, ⟨by decide +kernel, by decide +kernel, by decide +kernel⟩, by decide⟩
theorem tb_1901 : Cond.methodLink R_law 99 mX11_to.2.1 ∈ q_tb := ch_8 _ (List.mem_of_getElem? (i := 98) rfl) rfl
theorem tb_1902 : Cond.instanceMethod mX11_to.2.1 ∈ q_tb := ch_8 _ (List.mem_of_getElem? (i := 99) rfl) rfl
theorem tb_1903 : Cond.selects mX11_to.2.1.cls mX11_to.2.1 mX11_to.2.1 ∈ q_tb := ch_8 _ (List.mem_of_getElem? (i := 100) rfl) rfl
theorem tb_1904 : Cond.code mX11_to.2.1 mX11_to.2.2.1 mX11_to.2.2.2.1 mX11_to.2.2.2.2 ∈ q_tb := ch_8 _ (List.mem_of_getElem? (i := 101) rfl) rfl
theorem cv_L_99 : q_CV R_law 99 mX11_to 4 := ⟨tb_1901, tb_1902, tb_1903, tb_140, tb_1904, ⟨by decide +kernel, by decide +kernel, by decide +kernel⟩, by decide⟩
def q_sim_to (I : q_W → q_W → Prop) : Prop := ∀ (a1 a2 a3 a4 : Int32) (u v : q_W), I u v → ∃ (r : Int32) (u1 v1 : q_W), fX10_to a1 a2 a3 a4 u = some (r, u1) ∧ fX11_to a1 a2 a3 a4 v = some (r, v1) ∧ I u1 v1
theorem law_19 (l : Launch) (X Y : q_X) (b L k : Nat) (xs : Nat → Int32) (I : q_W → q_W → Prop) (u v : q_W) (hsim : q_sim_to I) (hI : I u v) (hin1 : vp_in (nI k + 1) L) (hin2 : vp_in (nI k + 2) L) (hin3 : vp_in (nI k + 3) L) (hin4 : vp_in (nI k + 4) L) (hin5 : vp_in (nI k + 5) L) (hin6 : vp_in (nI k + 6) L) (kk : ∀ u1 v1, I u1 v1 → q_LJ l X Y b L xs 1418 [(3, .int (nI k)), (0, .ref b), (1, .ref (X.2.2 0)), (2, .ref (Y.2.2 0))] [] u1 v1) : q_LJ l X Y b L xs 843 [(3, .int (nI k)), (0, .ref b), (1, .ref (X.2.2 0)), (2, .ref (Y.2.2 0))] [] u v := by
  obtain ⟨r, u1, v1, hc, hr, hI1⟩ := hsim (xs (nI k + 1).toNatClampNeg) (xs (nI k + 2).toNatClampNeg) (xs (nI k + 3).toNatClampNeg) (xs (nI k + 4).toNatClampNeg) u v hI
  refine q_Laload_n 2 eL_843 rfl rfl ?_
  refine q_Laload_n 1 eL_844 rfl rfl ?_
  refine q_Liload_n 0 eL_845 rfl rfl ?_
  refine q_Liconst (a := 1) eL_846 kiconst_1 ?_
  refine q_Liadd eL_847 ?_
  refine q_Lsld eL_848 hin1 ?_
  refine q_Laload_n 1 eL_849 rfl rfl ?_
  refine q_Liload_n 0 eL_850 rfl rfl ?_
  refine q_Liconst (a := 2) eL_851 kiconst_2 ?_
  refine q_Liadd eL_852 ?_
  refine q_Lsld eL_853 hin2 ?_
  refine q_Laload_n 1 eL_854 rfl rfl ?_
  refine q_Liload_n 0 eL_855 rfl rfl ?_
  refine q_Liconst (a := 3) eL_856 kiconst_3 ?_
  refine q_Liadd eL_857 ?_
  refine q_Lsld eL_858 hin3 ?_
  refine q_Laload_n 1 eL_859 rfl rfl ?_
  refine q_Liload_n 0 eL_860 rfl rfl ?_
  refine q_Liconst (a := 4) eL_861 kiconst_4 ?_
  refine q_Liadd eL_862 ?_
  refine q_Lsld eL_863 hin4 ?_
  refine q_LcallC (As := [.int (xs (nI k + 1).toNatClampNeg), .int (xs (nI k + 2).toNatClampNeg), .int (xs (nI k + 3).toNatClampNeg), .int (xs (nI k + 4).toNatClampNeg)]) (st := []) eL_864 cv_L_96 (by rw [← hc]; exact kX10_to X l (xs (nI k + 1).toNatClampNeg) (xs (nI k + 2).toNatClampNeg) (xs (nI k + 3).toNatClampNeg) (xs (nI k + 4).toNatClampNeg) u) rfl rfl rfl rfl (Nat.le_of_ble_eq_true rfl) (by decide) ?_
  refine q_Laload_n 3 eL_867 rfl rfl ?_
  refine q_Laload_n 1 eL_868 rfl rfl ?_
  refine q_Liload_n 0 eL_869 rfl rfl ?_
  refine q_Liconst (a := 1) eL_870 kiconst_1 ?_
  refine q_Liadd eL_871 ?_
  refine q_Lsld eL_872 hin1 ?_
  refine q_Laload_n 1 eL_873 rfl rfl ?_
  refine q_Liload_n 0 eL_874 rfl rfl ?_
  refine q_Liconst (a := 2) eL_875 kiconst_2 ?_
  refine q_Liadd eL_876 ?_
  refine q_Lsld eL_877 hin2 ?_
  refine q_Laload_n 1 eL_878 rfl rfl ?_
  refine q_Liload_n 0 eL_879 rfl rfl ?_
  refine q_Liconst (a := 3) eL_880 kiconst_3 ?_
  refine q_Liadd eL_881 ?_
  refine q_Lsld eL_882 hin3 ?_
  refine q_Laload_n 1 eL_883 rfl rfl ?_
  refine q_Liload_n 0 eL_884 rfl rfl ?_
  refine q_Liconst (a := 4) eL_885 kiconst_4 ?_
  refine q_Liadd eL_886 ?_
  refine q_Lsld eL_887 hin4 ?_
  refine q_LcallR (As := [.int (xs (nI k + 1).toNatClampNeg), .int (xs (nI k + 2).toNatClampNeg), .int (xs (nI k + 3).toNatClampNeg), .int (xs (nI k + 4).toNatClampNeg)]) (st := [.int r]) eL_888 cv_L_99 (by rw [← hr]; exact kX11_to Y l (xs (nI k + 1).toNatClampNeg) (xs (nI k + 2).toNatClampNeg) (xs (nI k + 3).toNatClampNeg) (xs (nI k + 4).toNatClampNeg) v) rfl rfl rfl rfl (Nat.le_of_ble_eq_true rfl) (by decide) ?_
  refine q_Licmp_eq (tgt := 1418) eL_891 (by decide) ?_
  exact kk u1 v1 hI1
theorem tb_1181 : Cond.methodLink R_law 100 mX10_home.2.1 ∈ q_tb := ch_5 _ (List.mem_of_getElem? (i := 98) rfl) rfl
theorem tb_1182 : Cond.instanceMethod mX10_home.2.1 ∈ q_tb := ch_5 _ (List.mem_of_getElem? (i := 99) rfl) rfl
theorem tb_1183 : Cond.selects mX10_home.2.1.cls mX10_home.2.1 mX10_home.2.1 ∈ q_tb := ch_5 _ (List.mem_of_getElem? (i := 100) rfl) rfl
theorem tb_1184 : Cond.code mX10_home.2.1 mX10_home.2.2.1 mX10_home.2.2.2.1 mX10_home.2.2.2.2 ∈ q_tb := ch_5 _ (List.mem_of_getElem? (i := 101) rfl) rfl
theorem cv_L_100 : q_CV R_law 100 mX10_home 3 := ⟨tb_1181, tb_1182, tb_1183, tb_124, tb_1184, ⟨by decide +kernel, by decide +kernel, by decide +kernel⟩, by decide⟩
theorem tb_1913 : Cond.methodLink R_law 103 mX11_home.2.1 ∈ q_tb := ch_8 _ (List.mem_of_getElem? (i := 110) rfl) rfl
theorem tb_1914 : Cond.instanceMethod mX11_home.2.1 ∈ q_tb := ch_8 _ (List.mem_of_getElem? (i := 111) rfl) rfl
theorem tb_1915 : Cond.selects mX11_home.2.1.cls mX11_home.2.1 mX11_home.2.1 ∈ q_tb := ch_8 _ (List.mem_of_getElem? (i := 112) rfl) rfl
theorem tb_1916 : Cond.code mX11_home.2.1 mX11_home.2.2.1 mX11_home.2.2.2.1 mX11_home.2.2.2.2 ∈ q_tb := ch_8 _ (List.mem_of_getElem? (i := 113) rfl) rfl
theorem cv_L_103 : q_CV R_law 103 mX11_home 3 := ⟨tb_1913, tb_1914, tb_1915, tb_140, tb_1916, ⟨by decide +kernel, by decide +kernel, by decide +kernel⟩, by decide⟩
def q_sim_home (I : q_W → q_W → Prop) : Prop := ∀ (a1 a2 a3 : Int32) (u v : q_W), I u v → ∃ (r : Int32) (u1 v1 : q_W), fX10_home a1 a2 a3 u = some (r, u1) ∧ fX11_home a1 a2 a3 v = some (r, v1) ∧ I u1 v1
theorem law_20 (l : Launch) (X Y : q_X) (b L k : Nat) (xs : Nat → Int32) (I : q_W → q_W → Prop) (u v : q_W) (hsim : q_sim_home I) (hI : I u v) (hin1 : vp_in (nI k + 1) L) (hin2 : vp_in (nI k + 2) L) (hin3 : vp_in (nI k + 3) L) (hin4 : vp_in (nI k + 4) L) (hin5 : vp_in (nI k + 5) L) (hin6 : vp_in (nI k + 6) L) (kk : ∀ u1 v1, I u1 v1 → q_LJ l X Y b L xs 1418 [(3, .int (nI k)), (0, .ref b), (1, .ref (X.2.2 0)), (2, .ref (Y.2.2 0))] [] u1 v1) : q_LJ l X Y b L xs 896 [(3, .int (nI k)), (0, .ref b), (1, .ref (X.2.2 0)), (2, .ref (Y.2.2 0))] [] u v := by
  obtain ⟨r, u1, v1, hc, hr, hI1⟩ := hsim (xs (nI k + 1).toNatClampNeg) (xs (nI k + 2).toNatClampNeg) (xs (nI k + 3).toNatClampNeg) u v hI
  refine q_Laload_n 2 eL_896 rfl rfl ?_
  refine q_Laload_n 1 eL_897 rfl rfl ?_
  refine q_Liload_n 0 eL_898 rfl rfl ?_
  refine q_Liconst (a := 1) eL_899 kiconst_1 ?_
  refine q_Liadd eL_900 ?_
  refine q_Lsld eL_901 hin1 ?_
  refine q_Laload_n 1 eL_902 rfl rfl ?_
  refine q_Liload_n 0 eL_903 rfl rfl ?_
  refine q_Liconst (a := 2) eL_904 kiconst_2 ?_
  refine q_Liadd eL_905 ?_
  refine q_Lsld eL_906 hin2 ?_
  refine q_Laload_n 1 eL_907 rfl rfl ?_
  refine q_Liload_n 0 eL_908 rfl rfl ?_
  refine q_Liconst (a := 3) eL_909 kiconst_3 ?_
  refine q_Liadd eL_910 ?_
  refine q_Lsld eL_911 hin3 ?_
  refine q_LcallC (As := [.int (xs (nI k + 1).toNatClampNeg), .int (xs (nI k + 2).toNatClampNeg), .int (xs (nI k + 3).toNatClampNeg)]) (st := []) eL_912 cv_L_100 (by rw [← hc]; exact kX10_home X l (xs (nI k + 1).toNatClampNeg) (xs (nI k + 2).toNatClampNeg) (xs (nI k + 3).toNatClampNeg) u) rfl rfl rfl rfl (Nat.le_of_ble_eq_true rfl) (by decide) ?_
  refine q_Laload_n 3 eL_915 rfl rfl ?_
  refine q_Laload_n 1 eL_916 rfl rfl ?_
  refine q_Liload_n 0 eL_917 rfl rfl ?_
  refine q_Liconst (a := 1) eL_918 kiconst_1 ?_
  refine q_Liadd eL_919 ?_
  refine q_Lsld eL_920 hin1 ?_
  refine q_Laload_n 1 eL_921 rfl rfl ?_
  refine q_Liload_n 0 eL_922 rfl rfl ?_
  refine q_Liconst (a := 2) eL_923 kiconst_2 ?_
  refine q_Liadd eL_924 ?_
  refine q_Lsld eL_925 hin2 ?_
  refine q_Laload_n 1 eL_926 rfl rfl ?_
  refine q_Liload_n 0 eL_927 rfl rfl ?_
  refine q_Liconst (a := 3) eL_928 kiconst_3 ?_
  refine q_Liadd eL_929 ?_
  refine q_Lsld eL_930 hin3 ?_
  refine q_LcallR (As := [.int (xs (nI k + 1).toNatClampNeg), .int (xs (nI k + 2).toNatClampNeg), .int (xs (nI k + 3).toNatClampNeg)]) (st := [.int r]) eL_931 cv_L_103 (by rw [← hr]; exact kX11_home Y l (xs (nI k + 1).toNatClampNeg) (xs (nI k + 2).toNatClampNeg) (xs (nI k + 3).toNatClampNeg) v) rfl rfl rfl rfl (Nat.le_of_ble_eq_true rfl) (by decide) ?_
  refine q_Licmp_eq (tgt := 1418) eL_934 (by decide) ?_
  exact kk u1 v1 hI1
theorem tb_1188 : Cond.methodLink R_law 104 mX10_sheets.2.1 ∈ q_tb := ch_5 _ (List.mem_of_getElem? (i := 105) rfl) rfl
theorem tb_1189 : Cond.instanceMethod mX10_sheets.2.1 ∈ q_tb := ch_5 _ (List.mem_of_getElem? (i := 106) rfl) rfl
theorem tb_1190 : Cond.selects mX10_sheets.2.1.cls mX10_sheets.2.1 mX10_sheets.2.1 ∈ q_tb := ch_5 _ (List.mem_of_getElem? (i := 107) rfl) rfl
theorem tb_1191 : Cond.code mX10_sheets.2.1 mX10_sheets.2.2.1 mX10_sheets.2.2.2.1 mX10_sheets.2.2.2.2 ∈ q_tb := ch_5 _ (List.mem_of_getElem? (i := 108) rfl) rfl
theorem cv_L_104 : q_CV R_law 104 mX10_sheets 1 := ⟨tb_1188, tb_1189, tb_1190, tb_124, tb_1191, ⟨by decide +kernel, by decide +kernel, by decide +kernel⟩, by decide⟩
theorem tb_1917 : Cond.methodLink R_law 107 mX11_sheets.2.1 ∈ q_tb := ch_8 _ (List.mem_of_getElem? (i := 114) rfl) rfl
theorem tb_1918 : Cond.instanceMethod mX11_sheets.2.1 ∈ q_tb := ch_8 _ (List.mem_of_getElem? (i := 115) rfl) rfl
theorem tb_1919 : Cond.selects mX11_sheets.2.1.cls mX11_sheets.2.1 mX11_sheets.2.1 ∈ q_tb := ch_8 _ (List.mem_of_getElem? (i := 116) rfl) rfl
theorem tb_1920 : Cond.code mX11_sheets.2.1 mX11_sheets.2.2.1 mX11_sheets.2.2.2.1 mX11_sheets.2.2.2.2 ∈ q_tb := ch_8 _ (List.mem_of_getElem? (i := 117) rfl) rfl
theorem cv_L_107 : q_CV R_law 107 mX11_sheets 1 := ⟨tb_1917, tb_1918, tb_1919, tb_140, tb_1920, ⟨by decide +kernel, by decide +kernel, by decide +kernel⟩, by decide⟩
def q_sim_sheets (I : q_W → q_W → Prop) : Prop := ∀ (a1 : Int32) (u v : q_W), I u v → ∃ (r : Int32) (u1 v1 : q_W), fX10_sheets a1 u = some (r, u1) ∧ fX11_sheets a1 v = some (r, v1) ∧ I u1 v1
theorem law_21 (l : Launch) (X Y : q_X) (b L k : Nat) (xs : Nat → Int32) (I : q_W → q_W → Prop) (u v : q_W) (hsim : q_sim_sheets I) (hI : I u v) (hin1 : vp_in (nI k + 1) L) (hin2 : vp_in (nI k + 2) L) (hin3 : vp_in (nI k + 3) L) (hin4 : vp_in (nI k + 4) L) (hin5 : vp_in (nI k + 5) L) (hin6 : vp_in (nI k + 6) L) (kk : ∀ u1 v1, I u1 v1 → q_LJ l X Y b L xs 1418 [(3, .int (nI k)), (0, .ref b), (1, .ref (X.2.2 0)), (2, .ref (Y.2.2 0))] [] u1 v1) : q_LJ l X Y b L xs 939 [(3, .int (nI k)), (0, .ref b), (1, .ref (X.2.2 0)), (2, .ref (Y.2.2 0))] [] u v := by
  obtain ⟨r, u1, v1, hc, hr, hI1⟩ := hsim (xs (nI k + 1).toNatClampNeg) u v hI
  refine q_Laload_n 2 eL_939 rfl rfl ?_
  refine q_Laload_n 1 eL_940 rfl rfl ?_
  refine q_Liload_n 0 eL_941 rfl rfl ?_
  refine q_Liconst (a := 1) eL_942 kiconst_1 ?_
  refine q_Liadd eL_943 ?_
  refine q_Lsld eL_944 hin1 ?_
  refine q_LcallC (As := [.int (xs (nI k + 1).toNatClampNeg)]) (st := []) eL_945 cv_L_104 (by rw [← hc]; exact kX10_sheets X l (xs (nI k + 1).toNatClampNeg) u) rfl rfl rfl rfl (Nat.le_of_ble_eq_true rfl) (by decide) ?_
  refine q_Laload_n 3 eL_948 rfl rfl ?_
  refine q_Laload_n 1 eL_949 rfl rfl ?_
  refine q_Liload_n 0 eL_950 rfl rfl ?_
  refine q_Liconst (a := 1) eL_951 kiconst_1 ?_
  refine q_Liadd eL_952 ?_
  refine q_Lsld eL_953 hin1 ?_
  refine q_LcallR (As := [.int (xs (nI k + 1).toNatClampNeg)]) (st := [.int r]) eL_954 cv_L_107 (by rw [← hr]; exact kX11_sheets Y l (xs (nI k + 1).toNatClampNeg) v) rfl rfl rfl rfl (Nat.le_of_ble_eq_true rfl) (by decide) ?_
  refine q_Licmp_eq (tgt := 1418) eL_957 (by decide) ?_
  exact kk u1 v1 hI1
theorem tb_1192 : Cond.methodLink R_law 108 mX10_cell.2.1 ∈ q_tb := ch_5 _ (List.mem_of_getElem? (i := 109) rfl) rfl
theorem tb_1193 : Cond.instanceMethod mX10_cell.2.1 ∈ q_tb := ch_5 _ (List.mem_of_getElem? (i := 110) rfl) rfl
theorem tb_1194 : Cond.selects mX10_cell.2.1.cls mX10_cell.2.1 mX10_cell.2.1 ∈ q_tb := ch_5 _ (List.mem_of_getElem? (i := 111) rfl) rfl
theorem tb_1195 : Cond.code mX10_cell.2.1 mX10_cell.2.2.1 mX10_cell.2.2.2.1 mX10_cell.2.2.2.2 ∈ q_tb := ch_5 _ (List.mem_of_getElem? (i := 112) rfl) rfl
theorem cv_L_108 : q_CV R_law 108 mX10_cell 4 := ⟨tb_1192, tb_1193, tb_1194, tb_124, tb_1195, ⟨by decide +kernel, by decide +kernel, by decide +kernel⟩, by decide⟩
theorem tb_1921 : Cond.methodLink R_law 111 mX11_cell.2.1 ∈ q_tb := ch_8 _ (List.mem_of_getElem? (i := 118) rfl) rfl
theorem tb_1922 : Cond.instanceMethod mX11_cell.2.1 ∈ q_tb := ch_8 _ (List.mem_of_getElem? (i := 119) rfl) rfl
theorem tb_1923 : Cond.selects mX11_cell.2.1.cls mX11_cell.2.1 mX11_cell.2.1 ∈ q_tb := ch_8 _ (List.mem_of_getElem? (i := 120) rfl) rfl
theorem tb_1924 : Cond.code mX11_cell.2.1 mX11_cell.2.2.1 mX11_cell.2.2.2.1 mX11_cell.2.2.2.2 ∈ q_tb := ch_8 _ (List.mem_of_getElem? (i := 121) rfl) rfl
theorem cv_L_111 : q_CV R_law 111 mX11_cell 4 := ⟨tb_1921, tb_1922, tb_1923, tb_140, tb_1924, ⟨by decide +kernel, by decide +kernel, by decide +kernel⟩, by decide⟩
def q_sim_cell (I : q_W → q_W → Prop) : Prop := ∀ (a1 a2 a3 a4 : Int32) (u v : q_W), I u v → ∃ (r : Int32) (u1 v1 : q_W), fX10_cell a1 a2 a3 a4 u = some (r, u1) ∧ fX11_cell a1 a2 a3 a4 v = some (r, v1) ∧ I u1 v1
theorem law_22 (l : Launch) (X Y : q_X) (b L k : Nat) (xs : Nat → Int32) (I : q_W → q_W → Prop) (u v : q_W) (hsim : q_sim_cell I) (hI : I u v) (hin1 : vp_in (nI k + 1) L) (hin2 : vp_in (nI k + 2) L) (hin3 : vp_in (nI k + 3) L) (hin4 : vp_in (nI k + 4) L) (hin5 : vp_in (nI k + 5) L) (hin6 : vp_in (nI k + 6) L) (kk : ∀ u1 v1, I u1 v1 → q_LJ l X Y b L xs 1418 [(3, .int (nI k)), (0, .ref b), (1, .ref (X.2.2 0)), (2, .ref (Y.2.2 0))] [] u1 v1) : q_LJ l X Y b L xs 962 [(3, .int (nI k)), (0, .ref b), (1, .ref (X.2.2 0)), (2, .ref (Y.2.2 0))] [] u v := by
  obtain ⟨r, u1, v1, hc, hr, hI1⟩ := hsim (xs (nI k + 1).toNatClampNeg) (xs (nI k + 2).toNatClampNeg) (xs (nI k + 3).toNatClampNeg) (xs (nI k + 4).toNatClampNeg) u v hI
  refine q_Laload_n 2 eL_962 rfl rfl ?_
  refine q_Laload_n 1 eL_963 rfl rfl ?_
  refine q_Liload_n 0 eL_964 rfl rfl ?_
  refine q_Liconst (a := 1) eL_965 kiconst_1 ?_
  refine q_Liadd eL_966 ?_
  refine q_Lsld eL_967 hin1 ?_
  refine q_Laload_n 1 eL_968 rfl rfl ?_
  refine q_Liload_n 0 eL_969 rfl rfl ?_
  refine q_Liconst (a := 2) eL_970 kiconst_2 ?_
  refine q_Liadd eL_971 ?_
  refine q_Lsld eL_972 hin2 ?_
  refine q_Laload_n 1 eL_973 rfl rfl ?_
  refine q_Liload_n 0 eL_974 rfl rfl ?_
  refine q_Liconst (a := 3) eL_975 kiconst_3 ?_
  refine q_Liadd eL_976 ?_
  refine q_Lsld eL_977 hin3 ?_
  refine q_Laload_n 1 eL_978 rfl rfl ?_
  refine q_Liload_n 0 eL_979 rfl rfl ?_
  refine q_Liconst (a := 4) eL_980 kiconst_4 ?_
  refine q_Liadd eL_981 ?_
  refine q_Lsld eL_982 hin4 ?_
  refine q_LcallC (As := [.int (xs (nI k + 1).toNatClampNeg), .int (xs (nI k + 2).toNatClampNeg), .int (xs (nI k + 3).toNatClampNeg), .int (xs (nI k + 4).toNatClampNeg)]) (st := []) eL_983 cv_L_108 (by rw [← hc]; exact kX10_cell X l (xs (nI k + 1).toNatClampNeg) (xs (nI k + 2).toNatClampNeg) (xs (nI k + 3).toNatClampNeg) (xs (nI k + 4).toNatClampNeg) u) rfl rfl rfl rfl (Nat.le_of_ble_eq_true rfl) (by decide) ?_
  refine q_Laload_n 3 eL_986 rfl rfl ?_
  refine q_Laload_n 1 eL_987 rfl rfl ?_
  refine q_Liload_n 0 eL_988 rfl rfl ?_
  refine q_Liconst (a := 1) eL_989 kiconst_1 ?_
  refine q_Liadd eL_990 ?_
  refine q_Lsld eL_991 hin1 ?_
  refine q_Laload_n 1 eL_992 rfl rfl ?_
  refine q_Liload_n 0 eL_993 rfl rfl ?_
  refine q_Liconst (a := 2) eL_994 kiconst_2 ?_
  refine q_Liadd eL_995 ?_
  refine q_Lsld eL_996 hin2 ?_
  refine q_Laload_n 1 eL_997 rfl rfl ?_
  refine q_Liload_n 0 eL_998 rfl rfl ?_
  refine q_Liconst (a := 3) eL_999 kiconst_3 ?_
  refine q_Liadd eL_1000 ?_
  refine q_Lsld eL_1001 hin3 ?_
  refine q_Laload_n 1 eL_1002 rfl rfl ?_
  refine q_Liload_n 0 eL_1003 rfl rfl ?_
  refine q_Liconst (a := 4) eL_1004 kiconst_4 ?_
  refine q_Liadd eL_1005 ?_
  refine q_Lsld eL_1006 hin4 ?_
  refine q_LcallR (As := [.int (xs (nI k + 1).toNatClampNeg), .int (xs (nI k + 2).toNatClampNeg), .int (xs (nI k + 3).toNatClampNeg), .int (xs (nI k + 4).toNatClampNeg)]) (st := [.int r]) eL_1007 cv_L_111 (by rw [← hr]; exact kX11_cell Y l (xs (nI k + 1).toNatClampNeg) (xs (nI k + 2).toNatClampNeg) (xs (nI k + 3).toNatClampNeg) (xs (nI k + 4).toNatClampNeg) v) rfl rfl rfl rfl (Nat.le_of_ble_eq_true rfl) (by decide) ?_
  refine q_Licmp_eq (tgt := 1418) eL_1010 (by decide) ?_
  exact kk u1 v1 hI1
theorem tb_1229 : Cond.methodLink R_law 112 mX10_area.2.1 ∈ q_tb := ch_5 _ (List.mem_of_getElem? (i := 146) rfl) rfl
theorem tb_1230 : Cond.instanceMethod mX10_area.2.1 ∈ q_tb := ch_5 _ (List.mem_of_getElem? (i := 147) rfl) rfl
theorem tb_1231 : Cond.selects mX10_area.2.1.cls mX10_area.2.1 mX10_area.2.1 ∈ q_tb := ch_5 _ (List.mem_of_getElem? (i := 148) rfl) rfl
theorem tb_1232 : Cond.code mX10_area.2.1 mX10_area.2.2.1 mX10_area.2.2.2.1 mX10_area.2.2.2.2 ∈ q_tb := ch_5 _ (List.mem_of_getElem? (i := 149) rfl) rfl
theorem cv_L_112 : q_CV R_law 112 mX10_area 3 := ⟨tb_1229, tb_1230, tb_1231, tb_124, tb_1232, ⟨by decide +kernel, by decide +kernel, by decide +kernel⟩, by decide⟩
theorem tb_1933 : Cond.methodLink R_law 115 mX11_area.2.1 ∈ q_tb := ch_8 _ (List.mem_of_getElem? (i := 130) rfl) rfl
theorem tb_1934 : Cond.instanceMethod mX11_area.2.1 ∈ q_tb := ch_8 _ (List.mem_of_getElem? (i := 131) rfl) rfl
theorem tb_1935 : Cond.selects mX11_area.2.1.cls mX11_area.2.1 mX11_area.2.1 ∈ q_tb := ch_8 _ (List.mem_of_getElem? (i := 132) rfl) rfl
theorem tb_1936 : Cond.code mX11_area.2.1 mX11_area.2.2.1 mX11_area.2.2.2.1 mX11_area.2.2.2.2 ∈ q_tb := ch_8 _ (List.mem_of_getElem? (i := 133) rfl) rfl
theorem cv_L_115 : q_CV R_law 115 mX11_area 3 := ⟨tb_1933, tb_1934, tb_1935, tb_140, tb_1936, ⟨by decide +kernel, by decide +kernel, by decide +kernel⟩, by decide⟩
def q_sim_area (I : q_W → q_W → Prop) : Prop := ∀ (a1 a2 a3 : Int32) (u v : q_W), I u v → ∃ (r : Int32) (u1 v1 : q_W), fX10_area a1 a2 a3 u = some (r, u1) ∧ fX11_area a1 a2 a3 v = some (r, v1) ∧ I u1 v1
theorem law_23 (l : Launch) (X Y : q_X) (b L k : Nat) (xs : Nat → Int32) (I : q_W → q_W → Prop) (u v : q_W) (hsim : q_sim_area I) (hI : I u v) (hin1 : vp_in (nI k + 1) L) (hin2 : vp_in (nI k + 2) L) (hin3 : vp_in (nI k + 3) L) (hin4 : vp_in (nI k + 4) L) (hin5 : vp_in (nI k + 5) L) (hin6 : vp_in (nI k + 6) L) (kk : ∀ u1 v1, I u1 v1 → q_LJ l X Y b L xs 1418 [(3, .int (nI k)), (0, .ref b), (1, .ref (X.2.2 0)), (2, .ref (Y.2.2 0))] [] u1 v1) : q_LJ l X Y b L xs 1015 [(3, .int (nI k)), (0, .ref b), (1, .ref (X.2.2 0)), (2, .ref (Y.2.2 0))] [] u v := by
  obtain ⟨r, u1, v1, hc, hr, hI1⟩ := hsim (xs (nI k + 1).toNatClampNeg) (xs (nI k + 2).toNatClampNeg) (xs (nI k + 3).toNatClampNeg) u v hI
  refine q_Laload_n 2 eL_1015 rfl rfl ?_
  refine q_Laload_n 1 eL_1016 rfl rfl ?_
  refine q_Liload_n 0 eL_1017 rfl rfl ?_
  refine q_Liconst (a := 1) eL_1018 kiconst_1 ?_
  refine q_Liadd eL_1019 ?_
  refine q_Lsld eL_1020 hin1 ?_
  refine q_Laload_n 1 eL_1021 rfl rfl ?_
  refine q_Liload_n 0 eL_1022 rfl rfl ?_
  refine q_Liconst (a := 2) eL_1023 kiconst_2 ?_
  refine q_Liadd eL_1024 ?_
  refine q_Lsld eL_1025 hin2 ?_
  refine q_Laload_n 1 eL_1026 rfl rfl ?_
  refine q_Liload_n 0 eL_1027 rfl rfl ?_
  refine q_Liconst (a := 3) eL_1028 kiconst_3 ?_
  refine q_Liadd eL_1029 ?_
  refine q_Lsld eL_1030 hin3 ?_
  refine q_LcallC (As := [.int (xs (nI k + 1).toNatClampNeg), .int (xs (nI k + 2).toNatClampNeg), .int (xs (nI k + 3).toNatClampNeg)]) (st := []) eL_1031 cv_L_112 (by rw [← hc]; exact kX10_area X l (xs (nI k + 1).toNatClampNeg) (xs (nI k + 2).toNatClampNeg) (xs (nI k + 3).toNatClampNeg) u) rfl rfl rfl rfl (Nat.le_of_ble_eq_true rfl) (by decide) ?_
  refine q_Laload_n 3 eL_1034 rfl rfl ?_
  refine q_Laload_n 1 eL_1035 rfl rfl ?_
  refine q_Liload_n 0 eL_1036 rfl rfl ?_
  refine q_Liconst (a := 1) eL_1037 kiconst_1 ?_
  refine q_Liadd eL_1038 ?_
  refine q_Lsld eL_1039 hin1 ?_
  refine q_Laload_n 1 eL_1040 rfl rfl ?_
  refine q_Liload_n 0 eL_1041 rfl rfl ?_
  refine q_Liconst (a := 2) eL_1042 kiconst_2 ?_
  refine q_Liadd eL_1043 ?_
  refine q_Lsld eL_1044 hin2 ?_
  refine q_Laload_n 1 eL_1045 rfl rfl ?_
  refine q_Liload_n 0 eL_1046 rfl rfl ?_
  refine q_Liconst (a := 3) eL_1047 kiconst_3 ?_
  refine q_Liadd eL_1048 ?_
  refine q_Lsld eL_1049 hin3 ?_
  refine q_LcallR (As := [.int (xs (nI k + 1).toNatClampNeg), .int (xs (nI k + 2).toNatClampNeg), .int (xs (nI k + 3).toNatClampNeg)]) (st := [.int r]) eL_1050 cv_L_115 (by rw [← hr]; exact kX11_area Y l (xs (nI k + 1).toNatClampNeg) (xs (nI k + 2).toNatClampNeg) (xs (nI k + 3).toNatClampNeg) v) rfl rfl rfl rfl (Nat.le_of_ble_eq_true rfl) (by decide) ?_
  refine q_Licmp_eq (tgt := 1418) eL_1053 (by decide) ?_
  exact kk u1 v1 hI1
theorem tb_1237 : Cond.methodLink R_law 116 mX10_pieces.2.1 ∈ q_tb := ch_5 _ (List.mem_of_getElem? (i := 154) rfl) rfl
theorem tb_1238 : Cond.instanceMethod mX10_pieces.2.1 ∈ q_tb := ch_5 _ (List.mem_of_getElem? (i := 155) rfl) rfl
theorem tb_1239 : Cond.selects mX10_pieces.2.1.cls mX10_pieces.2.1 mX10_pieces.2.1 ∈ q_tb := ch_5 _ (List.mem_of_getElem? (i := 156) rfl) rfl
theorem tb_1240 : Cond.code mX10_pieces.2.1 mX10_pieces.2.2.1 mX10_pieces.2.2.2.1 mX10_pieces.2.2.2.2 ∈ q_tb := ch_5 _ (List.mem_of_getElem? (i := 157) rfl) rfl
theorem cv_L_116 : q_CV R_law 116 mX10_pieces 2 := ⟨tb_1237, tb_1238, tb_1239, tb_124, tb_1240, ⟨by decide +kernel, by decide +kernel, by decide +kernel⟩, by decide⟩
theorem tb_1937 : Cond.methodLink R_law 119 mX11_pieces.2.1 ∈ q_tb := ch_8 _ (List.mem_of_getElem? (i := 134) rfl) rfl
theorem tb_1938 : Cond.instanceMethod mX11_pieces.2.1 ∈ q_tb := ch_8 _ (List.mem_of_getElem? (i := 135) rfl) rfl
theorem tb_1939 : Cond.selects mX11_pieces.2.1.cls mX11_pieces.2.1 mX11_pieces.2.1 ∈ q_tb := ch_8 _ (List.mem_of_getElem? (i := 136) rfl) rfl
theorem tb_1940 : Cond.code mX11_pieces.2.1 mX11_pieces.2.2.1 mX11_pieces.2.2.2.1 mX11_pieces.2.2.2.2 ∈ q_tb := ch_8 _ (List.mem_of_getElem? (i := 137) rfl) rfl
theorem cv_L_119 : q_CV R_law 119 mX11_pieces 2 := ⟨tb_1937, tb_1938, tb_1939, tb_140, tb_1940, ⟨by decide +kernel, by decide +kernel, by decide +kernel⟩, by decide⟩
def q_sim_pieces (I : q_W → q_W → Prop) : Prop := ∀ (a1 a2 : Int32) (u v : q_W), I u v → ∃ (r : Int32) (u1 v1 : q_W), fX10_pieces a1 a2 u = some (r, u1) ∧ fX11_pieces a1 a2 v = some (r, v1) ∧ I u1 v1
theorem law_24 (l : Launch) (X Y : q_X) (b L k : Nat) (xs : Nat → Int32) (I : q_W → q_W → Prop) (u v : q_W) (hsim : q_sim_pieces I) (hI : I u v) (hin1 : vp_in (nI k + 1) L) (hin2 : vp_in (nI k + 2) L) (hin3 : vp_in (nI k + 3) L) (hin4 : vp_in (nI k + 4) L) (hin5 : vp_in (nI k + 5) L) (hin6 : vp_in (nI k + 6) L) (kk : ∀ u1 v1, I u1 v1 → q_LJ l X Y b L xs 1418 [(3, .int (nI k)), (0, .ref b), (1, .ref (X.2.2 0)), (2, .ref (Y.2.2 0))] [] u1 v1) : q_LJ l X Y b L xs 1058 [(3, .int (nI k)), (0, .ref b), (1, .ref (X.2.2 0)), (2, .ref (Y.2.2 0))] [] u v := by
  obtain ⟨r, u1, v1, hc, hr, hI1⟩ := hsim (xs (nI k + 1).toNatClampNeg) (xs (nI k + 2).toNatClampNeg) u v hI
  refine q_Laload_n 2 eL_1058 rfl rfl ?_
  refine q_Laload_n 1 eL_1059 rfl rfl ?_
  refine q_Liload_n 0 eL_1060 rfl rfl ?_
  refine q_Liconst (a := 1) eL_1061 kiconst_1 ?_
  refine q_Liadd eL_1062 ?_
  refine q_Lsld eL_1063 hin1 ?_
  refine q_Laload_n 1 eL_1064 rfl rfl ?_
  refine q_Liload_n 0 eL_1065 rfl rfl ?_
  refine q_Liconst (a := 2) eL_1066 kiconst_2 ?_
  refine q_Liadd eL_1067 ?_
  refine q_Lsld eL_1068 hin2 ?_
  refine q_LcallC (As := [.int (xs (nI k + 1).toNatClampNeg), .int (xs (nI k + 2).toNatClampNeg)]) (st := []) eL_1069 cv_L_116 (by rw [← hc]; exact kX10_pieces X l (xs (nI k + 1).toNatClampNeg) (xs (nI k + 2).toNatClampNeg) u) rfl rfl rfl rfl (Nat.le_of_ble_eq_true rfl) (by decide) ?_
  refine q_Laload_n 3 eL_1072 rfl rfl ?_
  refine q_Laload_n 1 eL_1073 rfl rfl ?_
  refine q_Liload_n 0 eL_1074 rfl rfl ?_
  refine q_Liconst (a := 1) eL_1075 kiconst_1 ?_
  refine q_Liadd eL_1076 ?_
  refine q_Lsld eL_1077 hin1 ?_
  refine q_Laload_n 1 eL_1078 rfl rfl ?_
  refine q_Liload_n 0 eL_1079 rfl rfl ?_
  refine q_Liconst (a := 2) eL_1080 kiconst_2 ?_
  refine q_Liadd eL_1081 ?_
  refine q_Lsld eL_1082 hin2 ?_
  refine q_LcallR (As := [.int (xs (nI k + 1).toNatClampNeg), .int (xs (nI k + 2).toNatClampNeg)]) (st := [.int r]) eL_1083 cv_L_119 (by rw [← hr]; exact kX11_pieces Y l (xs (nI k + 1).toNatClampNeg) (xs (nI k + 2).toNatClampNeg) v) rfl rfl rfl rfl (Nat.le_of_ble_eq_true rfl) (by decide) ?_
  refine q_Licmp_eq (tgt := 1418) eL_1086 (by decide) ?_
  exact kk u1 v1 hI1
theorem tb_1259 : Cond.methodLink R_law 120 mX10_largest.2.1 ∈ q_tb := ch_5 _ (List.mem_of_getElem? (i := 176) rfl) rfl
theorem tb_1260 : Cond.instanceMethod mX10_largest.2.1 ∈ q_tb := ch_5 _ (List.mem_of_getElem? (i := 177) rfl) rfl
theorem tb_1261 : Cond.selects mX10_largest.2.1.cls mX10_largest.2.1 mX10_largest.2.1 ∈ q_tb := ch_5 _ (List.mem_of_getElem? (i := 178) rfl) rfl
theorem tb_1262 : Cond.code mX10_largest.2.1 mX10_largest.2.2.1 mX10_largest.2.2.2.1 mX10_largest.2.2.2.2 ∈ q_tb := ch_5 _ (List.mem_of_getElem? (i := 179) rfl) rfl
theorem cv_L_120 : q_CV R_law 120 mX10_largest 2 := ⟨tb_1259, tb_1260, tb_1261, tb_124, tb_1262, ⟨by decide +kernel, by decide +kernel, by decide +kernel⟩, by decide⟩
theorem tb_1949 : Cond.methodLink R_law 123 mX11_largest.2.1 ∈ q_tb := ch_8 _ (List.mem_of_getElem? (i := 146) rfl) rfl
theorem tb_1950 : Cond.instanceMethod mX11_largest.2.1 ∈ q_tb := ch_8 _ (List.mem_of_getElem? (i := 147) rfl) rfl
theorem tb_1951 : Cond.selects mX11_largest.2.1.cls mX11_largest.2.1 mX11_largest.2.1 ∈ q_tb := ch_8 _ (List.mem_of_getElem? (i := 148) rfl) rfl
theorem tb_1952 : Cond.code mX11_largest.2.1 mX11_largest.2.2.1 mX11_largest.2.2.2.1 mX11_largest.2.2.2.2 ∈ q_tb := ch_8 _ (List.mem_of_getElem? (i := 149) rfl) rfl
theorem cv_L_123 : q_CV R_law 123 mX11_largest 2 := ⟨tb_1949, tb_1950, tb_1951, tb_140, tb_1952, ⟨by decide +kernel, by decide +kernel, by decide +kernel⟩, by decide⟩
def q_sim_largest (I : q_W → q_W → Prop) : Prop := ∀ (a1 a2 : Int32) (u v : q_W), I u v → ∃ (r : Int32) (u1 v1 : q_W), fX10_largest a1 a2 u = some (r, u1) ∧ fX11_largest a1 a2 v = some (r, v1) ∧ I u1 v1
theorem law_25 (l : Launch) (X Y : q_X) (b L k : Nat) (xs : Nat → Int32) (I : q_W → q_W → Prop) (u v : q_W) (hsim : q_sim_largest I) (hI : I u v) (hin1 : vp_in (nI k + 1) L) (hin2 : vp_in (nI k + 2) L) (hin3 : vp_in (nI k + 3) L) (hin4 : vp_in (nI k + 4) L) (hin5 : vp_in (nI k + 5) L) (hin6 : vp_in (nI k + 6) L) (kk : ∀ u1 v1, I u1 v1 → q_LJ l X Y b L xs 1418 [(3, .int (nI k)), (0, .ref b), (1, .ref (X.2.2 0)), (2, .ref (Y.2.2 0))] [] u1 v1) : q_LJ l X Y b L xs 1091 [(3, .int (nI k)), (0, .ref b), (1, .ref (X.2.2 0)), (2, .ref (Y.2.2 0))] [] u v := by
  obtain ⟨r, u1, v1, hc, hr, hI1⟩ := hsim (xs (nI k + 1).toNatClampNeg) (xs (nI k + 2).toNatClampNeg) u v hI
  refine q_Laload_n 2 eL_1091 rfl rfl ?_
  refine q_Laload_n 1 eL_1092 rfl rfl ?_
  refine q_Liload_n 0 eL_1093 rfl rfl ?_
  refine q_Liconst (a := 1) eL_1094 kiconst_1 ?_
  refine q_Liadd eL_1095 ?_
  refine q_Lsld eL_1096 hin1 ?_
  refine q_Laload_n 1 eL_1097 rfl rfl ?_
  refine q_Liload_n 0 eL_1098 rfl rfl ?_
  refine q_Liconst (a := 2) eL_1099 kiconst_2 ?_
  refine q_Liadd eL_1100 ?_
  refine q_Lsld eL_1101 hin2 ?_
  refine q_LcallC (As := [.int (xs (nI k + 1).toNatClampNeg), .int (xs (nI k + 2).toNatClampNeg)]) (st := []) eL_1102 cv_L_120 (by rw [← hc]; exact kX10_largest X l (xs (nI k + 1).toNatClampNeg) (xs (nI k + 2).toNatClampNeg) u) rfl rfl rfl rfl (Nat.le_of_ble_eq_true rfl) (by decide) ?_
  refine q_Laload_n 3 eL_1105 rfl rfl ?_
  refine q_Laload_n 1 eL_1106 rfl rfl ?_
  refine q_Liload_n 0 eL_1107 rfl rfl ?_
  refine q_Liconst (a := 1) eL_1108 kiconst_1 ?_
  refine q_Liadd eL_1109 ?_
  refine q_Lsld eL_1110 hin1 ?_
  refine q_Laload_n 1 eL_1111 rfl rfl ?_
  refine q_Liload_n 0 eL_1112 rfl rfl ?_
  refine q_Liconst (a := 2) eL_1113 kiconst_2 ?_
  refine q_Liadd eL_1114 ?_
  refine q_Lsld eL_1115 hin2 ?_
  refine q_LcallR (As := [.int (xs (nI k + 1).toNatClampNeg), .int (xs (nI k + 2).toNatClampNeg)]) (st := [.int r]) eL_1116 cv_L_123 (by rw [← hr]; exact kX11_largest Y l (xs (nI k + 1).toNatClampNeg) (xs (nI k + 2).toNatClampNeg) v) rfl rfl rfl rfl (Nat.le_of_ble_eq_true rfl) (by decide) ?_
  refine q_Licmp_eq (tgt := 1418) eL_1119 (by decide) ?_
  exact kk u1 v1 hI1
theorem tb_1267 : Cond.methodLink R_law 124 mX10_edge.2.1 ∈ q_tb := ch_5 _ (List.mem_of_getElem? (i := 184) rfl) rfl
theorem tb_1268 : Cond.instanceMethod mX10_edge.2.1 ∈ q_tb := ch_5 _ (List.mem_of_getElem? (i := 185) rfl) rfl
theorem tb_1269 : Cond.selects mX10_edge.2.1.cls mX10_edge.2.1 mX10_edge.2.1 ∈ q_tb := ch_5 _ (List.mem_of_getElem? (i := 186) rfl) rfl
theorem tb_1270 : Cond.code mX10_edge.2.1 mX10_edge.2.2.1 mX10_edge.2.2.2.1 mX10_edge.2.2.2.2 ∈ q_tb := ch_5 _ (List.mem_of_getElem? (i := 187) rfl) rfl
theorem cv_L_124 : q_CV R_law 124 mX10_edge 4 := ⟨tb_1267, tb_1268, tb_1269, tb_124, tb_1270, ⟨by decide +kernel, by decide +kernel, by decide +kernel⟩, by decide⟩
theorem tb_1953 : Cond.methodLink R_law 127 mX11_edge.2.1 ∈ q_tb := ch_8 _ (List.mem_of_getElem? (i := 150) rfl) rfl
theorem tb_1954 : Cond.instanceMethod mX11_edge.2.1 ∈ q_tb := ch_8 _ (List.mem_of_getElem? (i := 151) rfl) rfl
theorem tb_1955 : Cond.selects mX11_edge.2.1.cls mX11_edge.2.1 mX11_edge.2.1 ∈ q_tb := ch_8 _ (List.mem_of_getElem? (i := 152) rfl) rfl
theorem tb_1956 : Cond.code mX11_edge.2.1 mX11_edge.2.2.1 mX11_edge.2.2.2.1 mX11_edge.2.2.2.2 ∈ q_tb := ch_8 _ (List.mem_of_getElem? (i := 153) rfl) rfl
theorem cv_L_127 : q_CV R_law 127 mX11_edge 4 := ⟨tb_1953, tb_1954, tb_1955, tb_140, tb_1956, ⟨by decide +kernel, by decide +kernel, by decide +kernel⟩, by decide⟩
def q_sim_edge (I : q_W → q_W → Prop) : Prop := ∀ (a1 a2 a3 a4 : Int32) (u v : q_W), I u v → ∃ (r : Int32) (u1 v1 : q_W), fX10_edge a1 a2 a3 a4 u = some (r, u1) ∧ fX11_edge a1 a2 a3 a4 v = some (r, v1) ∧ I u1 v1
theorem law_26 (l : Launch) (X Y : q_X) (b L k : Nat) (xs : Nat → Int32) (I : q_W → q_W → Prop) (u v : q_W) (hsim : q_sim_edge I) (hI : I u v) (hin1 : vp_in (nI k + 1) L) (hin2 : vp_in (nI k + 2) L) (hin3 : vp_in (nI k + 3) L) (hin4 : vp_in (nI k + 4) L) (hin5 : vp_in (nI k + 5) L) (hin6 : vp_in (nI k + 6) L) (kk : ∀ u1 v1, I u1 v1 → q_LJ l X Y b L xs 1418 [(3, .int (nI k)), (0, .ref b), (1, .ref (X.2.2 0)), (2, .ref (Y.2.2 0))] [] u1 v1) : q_LJ l X Y b L xs 1124 [(3, .int (nI k)), (0, .ref b), (1, .ref (X.2.2 0)), (2, .ref (Y.2.2 0))] [] u v := by
  obtain ⟨r, u1, v1, hc, hr, hI1⟩ := hsim (xs (nI k + 1).toNatClampNeg) (xs (nI k + 2).toNatClampNeg) (xs (nI k + 3).toNatClampNeg) (xs (nI k + 4).toNatClampNeg) u v hI
  refine q_Laload_n 2 eL_1124 rfl rfl ?_
  refine q_Laload_n 1 eL_1125 rfl rfl ?_
  refine q_Liload_n 0 eL_1126 rfl rfl ?_
  refine q_Liconst (a := 1) eL_1127 kiconst_1 ?_
  refine q_Liadd eL_1128 ?_
  refine q_Lsld eL_1129 hin1 ?_
  refine q_Laload_n 1 eL_1130 rfl rfl ?_
  refine q_Liload_n 0 eL_1131 rfl rfl ?_
  refine q_Liconst (a := 2) eL_1132 kiconst_2 ?_
  refine q_Liadd eL_1133 ?_
  refine q_Lsld eL_1134 hin2 ?_
  refine q_Laload_n 1 eL_1135 rfl rfl ?_
  refine q_Liload_n 0 eL_1136 rfl rfl ?_
  refine q_Liconst (a := 3) eL_1137 kiconst_3 ?_
  refine q_Liadd eL_1138 ?_
  refine q_Lsld eL_1139 hin3 ?_
  refine q_Laload_n 1 eL_1140 rfl rfl ?_
  refine q_Liload_n 0 eL_1141 rfl rfl ?_
  refine q_Liconst (a := 4) eL_1142 kiconst_4 ?_
  refine q_Liadd eL_1143 ?_
  refine q_Lsld eL_1144 hin4 ?_
  refine q_LcallC (As := [.int (xs (nI k + 1).toNatClampNeg), .int (xs (nI k + 2).toNatClampNeg), .int (xs (nI k + 3).toNatClampNeg), .int (xs (nI k + 4).toNatClampNeg)]) (st := []) eL_1145 cv_L_124 (by rw [← hc]; exact kX10_edge X l (xs (nI k + 1).toNatClampNeg) (xs (nI k + 2).toNatClampNeg) (xs (nI k + 3).toNatClampNeg) (xs (nI k + 4).toNatClampNeg) u) rfl rfl rfl rfl (Nat.le_of_ble_eq_true rfl) (by decide) ?_
  refine q_Laload_n 3 eL_1148 rfl rfl ?_
  refine q_Laload_n 1 eL_1149 rfl rfl ?_
  refine q_Liload_n 0 eL_1150 rfl rfl ?_
  refine q_Liconst (a := 1) eL_1151 kiconst_1 ?_
  refine q_Liadd eL_1152 ?_
  refine q_Lsld eL_1153 hin1 ?_
  refine q_Laload_n 1 eL_1154 rfl rfl ?_
  refine q_Liload_n 0 eL_1155 rfl rfl ?_
  refine q_Liconst (a := 2) eL_1156 kiconst_2 ?_
  refine q_Liadd eL_1157 ?_
  refine q_Lsld eL_1158 hin2 ?_
  refine q_Laload_n 1 eL_1159 rfl rfl ?_
  refine q_Liload_n 0 eL_1160 rfl rfl ?_
  refine q_Liconst (a := 3) eL_1161 kiconst_3 ?_
  refine q_Liadd eL_1162 ?_
  refine q_Lsld eL_1163 hin3 ?_
  refine q_Laload_n 1 eL_1164 rfl rfl ?_
  refine q_Liload_n 0 eL_1165 rfl rfl ?_
  refine q_Liconst (a := 4) eL_1166 kiconst_4 ?_
  refine q_Liadd eL_1167 ?_
  refine q_Lsld eL_1168 hin4 ?_
  refine q_LcallR (As := [.int (xs (nI k + 1).toNatClampNeg), .int (xs (nI k + 2).toNatClampNeg), .int (xs (nI k + 3).toNatClampNeg), .int (xs (nI k + 4).toNatClampNeg)]) (st := [.int r]) eL_1169 cv_L_127 (by rw [← hr]; exact kX11_edge Y l (xs (nI k + 1).toNatClampNeg) (xs (nI k + 2).toNatClampNeg) (xs (nI k + 3).toNatClampNeg) (xs (nI k + 4).toNatClampNeg) v) rfl rfl rfl rfl (Nat.le_of_ble_eq_true rfl) (by decide) ?_
  refine q_Licmp_eq (tgt := 1418) eL_1172 (by decide) ?_
  exact kk u1 v1 hI1
theorem tb_1279 : Cond.methodLink R_law 128 mX10_match.2.1 ∈ q_tb := ch_5 _ (List.mem_of_getElem? (i := 196) rfl) rfl
theorem tb_1280 : Cond.instanceMethod mX10_match.2.1 ∈ q_tb := ch_5 _ (List.mem_of_getElem? (i := 197) rfl) rfl
theorem tb_1281 : Cond.selects mX10_match.2.1.cls mX10_match.2.1 mX10_match.2.1 ∈ q_tb := ch_5 _ (List.mem_of_getElem? (i := 198) rfl) rfl
theorem tb_1282 : Cond.code mX10_match.2.1 mX10_match.2.2.1 mX10_match.2.2.2.1 mX10_match.2.2.2.2 ∈ q_tb := ch_5 _ (List.mem_of_getElem? (i := 199) rfl) rfl
theorem cv_L_128 : q_CV R_law 128 mX10_match 3 := ⟨tb_1279, tb_1280, tb_1281, tb_124, tb_1282, ⟨by decide +kernel, by decide +kernel, by decide +kernel⟩, by decide⟩
theorem tb_1961 : Cond.methodLink R_law 131 mX11_match.2.1 ∈ q_tb := ch_8 _ (List.mem_of_getElem? (i := 158) rfl) rfl
theorem tb_1962 : Cond.instanceMethod mX11_match.2.1 ∈ q_tb := ch_8 _ (List.mem_of_getElem? (i := 159) rfl) rfl
theorem tb_1963 : Cond.selects mX11_match.2.1.cls mX11_match.2.1 mX11_match.2.1 ∈ q_tb := ch_8 _ (List.mem_of_getElem? (i := 160) rfl) rfl
theorem tb_1964 : Cond.code mX11_match.2.1 mX11_match.2.2.1 mX11_match.2.2.2.1 mX11_match.2.2.2.2 ∈ q_tb := ch_8 _ (List.mem_of_getElem? (i := 161) rfl) rfl
theorem cv_L_131 : q_CV R_law 131 mX11_match 3 := ⟨tb_1961, tb_1962, tb_1963, tb_140, tb_1964, ⟨by decide +kernel, by decide +kernel, by decide +kernel⟩, by decide⟩
def q_sim_match (I : q_W → q_W → Prop) : Prop := ∀ (a1 a2 a3 : Int32) (u v : q_W), I u v → ∃ (r : Int32) (u1 v1 : q_W), fX10_match a1 a2 a3 u = some (r, u1) ∧ fX11_match a1 a2 a3 v = some (r, v1) ∧ I u1 v1
theorem law_27 (l : Launch) (X Y : q_X) (b L k : Nat) (xs : Nat → Int32) (I : q_W → q_W → Prop) (u v : q_W) (hsim : q_sim_match I) (hI : I u v) (hin1 : vp_in (nI k + 1) L) (hin2 : vp_in (nI k + 2) L) (hin3 : vp_in (nI k + 3) L) (hin4 : vp_in (nI k + 4) L) (hin5 : vp_in (nI k + 5) L) (hin6 : vp_in (nI k + 6) L) (kk : ∀ u1 v1, I u1 v1 → q_LJ l X Y b L xs 1418 [(3, .int (nI k)), (0, .ref b), (1, .ref (X.2.2 0)), (2, .ref (Y.2.2 0))] [] u1 v1) : q_LJ l X Y b L xs 1177 [(3, .int (nI k)), (0, .ref b), (1, .ref (X.2.2 0)), (2, .ref (Y.2.2 0))] [] u v := by
  obtain ⟨r, u1, v1, hc, hr, hI1⟩ := hsim (xs (nI k + 1).toNatClampNeg) (xs (nI k + 2).toNatClampNeg) (xs (nI k + 3).toNatClampNeg) u v hI
  refine q_Laload_n 2 eL_1177 rfl rfl ?_
  refine q_Laload_n 1 eL_1178 rfl rfl ?_
  refine q_Liload_n 0 eL_1179 rfl rfl ?_
  refine q_Liconst (a := 1) eL_1180 kiconst_1 ?_
  refine q_Liadd eL_1181 ?_
  refine q_Lsld eL_1182 hin1 ?_
  refine q_Laload_n 1 eL_1183 rfl rfl ?_
  refine q_Liload_n 0 eL_1184 rfl rfl ?_
  refine q_Liconst (a := 2) eL_1185 kiconst_2 ?_
  refine q_Liadd eL_1186 ?_
  refine q_Lsld eL_1187 hin2 ?_
  refine q_Laload_n 1 eL_1188 rfl rfl ?_
  refine q_Liload_n 0 eL_1189 rfl rfl ?_
  refine q_Liconst (a := 3) eL_1190 kiconst_3 ?_
  refine q_Liadd eL_1191 ?_
  refine q_Lsld eL_1192 hin3 ?_
  refine q_LcallC (As := [.int (xs (nI k + 1).toNatClampNeg), .int (xs (nI k + 2).toNatClampNeg), .int (xs (nI k + 3).toNatClampNeg)]) (st := []) eL_1193 cv_L_128 (by rw [← hc]; exact kX10_match X l (xs (nI k + 1).toNatClampNeg) (xs (nI k + 2).toNatClampNeg) (xs (nI k + 3).toNatClampNeg) u) rfl rfl rfl rfl (Nat.le_of_ble_eq_true rfl) (by decide) ?_
  refine q_Laload_n 3 eL_1196 rfl rfl ?_
  refine q_Laload_n 1 eL_1197 rfl rfl ?_
  refine q_Liload_n 0 eL_1198 rfl rfl ?_
  refine q_Liconst (a := 1) eL_1199 kiconst_1 ?_
  refine q_Liadd eL_1200 ?_
  refine q_Lsld eL_1201 hin1 ?_
  refine q_Laload_n 1 eL_1202 rfl rfl ?_
  refine q_Liload_n 0 eL_1203 rfl rfl ?_
  refine q_Liconst (a := 2) eL_1204 kiconst_2 ?_
  refine q_Liadd eL_1205 ?_
  refine q_Lsld eL_1206 hin2 ?_
  refine q_Laload_n 1 eL_1207 rfl rfl ?_
  refine q_Liload_n 0 eL_1208 rfl rfl ?_
  refine q_Liconst (a := 3) eL_1209 kiconst_3 ?_
  refine q_Liadd eL_1210 ?_
  refine q_Lsld eL_1211 hin3 ?_
  refine q_LcallR (As := [.int (xs (nI k + 1).toNatClampNeg), .int (xs (nI k + 2).toNatClampNeg), .int (xs (nI k + 3).toNatClampNeg)]) (st := [.int r]) eL_1212 cv_L_131 (by rw [← hr]; exact kX11_match Y l (xs (nI k + 1).toNatClampNeg) (xs (nI k + 2).toNatClampNeg) (xs (nI k + 3).toNatClampNeg) v) rfl rfl rfl rfl (Nat.le_of_ble_eq_true rfl) (by decide) ?_
  refine q_Licmp_eq (tgt := 1418) eL_1215 (by decide) ?_
  exact kk u1 v1 hI1
theorem tb_1289 : Cond.methodLink R_law 132 mX10_unlike.2.1 ∈ q_tb := ch_5 _ (List.mem_of_getElem? (i := 206) rfl) rfl
theorem tb_1290 : Cond.instanceMethod mX10_unlike.2.1 ∈ q_tb := ch_5 _ (List.mem_of_getElem? (i := 207) rfl) rfl
theorem tb_1291 : Cond.selects mX10_unlike.2.1.cls mX10_unlike.2.1 mX10_unlike.2.1 ∈ q_tb := ch_5 _ (List.mem_of_getElem? (i := 208) rfl) rfl
theorem tb_1292 : Cond.code mX10_unlike.2.1 mX10_unlike.2.2.1 mX10_unlike.2.2.2.1 mX10_unlike.2.2.2.2 ∈ q_tb := ch_5 _ (List.mem_of_getElem? (i := 209) rfl) rfl
theorem cv_L_132 : q_CV R_law 132 mX10_unlike 3 := ⟨tb_1289, tb_1290, tb_1291, tb_124, tb_1292, ⟨by decide +kernel, by decide +kernel, by decide +kernel⟩, by decide⟩
theorem tb_1965 : Cond.methodLink R_law 135 mX11_unlike.2.1 ∈ q_tb := ch_8 _ (List.mem_of_getElem? (i := 162) rfl) rfl
theorem tb_1966 : Cond.instanceMethod mX11_unlike.2.1 ∈ q_tb := ch_8 _ (List.mem_of_getElem? (i := 163) rfl) rfl
theorem tb_1967 : Cond.selects mX11_unlike.2.1.cls mX11_unlike.2.1 mX11_unlike.2.1 ∈ q_tb := ch_8 _ (List.mem_of_getElem? (i := 164) rfl) rfl
theorem tb_1968 : Cond.code mX11_unlike.2.1 mX11_unlike.2.2.1 mX11_unlike.2.2.2.1 mX11_unlike.2.2.2.2 ∈ q_tb := ch_8 _ (List.mem_of_getElem? (i := 165) rfl) rfl
theorem cv_L_135 : q_CV R_law 135 mX11_unlike 3 := ⟨tb_1965, tb_1966, tb_1967, tb_140, tb_1968, ⟨by decide +kernel, by decide +kernel, by decide +kernel⟩, by decide⟩
def q_sim_unlike (I : q_W → q_W → Prop) : Prop := ∀ (a1 a2 a3 : Int32) (u v : q_W), I u v → ∃ (r : Int32) (u1 v1 : q_W), fX10_unlike a1 a2 a3 u = some (r, u1) ∧ fX11_unlike a1 a2 a3 v = some (r, v1) ∧ I u1 v1
theorem law_28 (l : Launch) (X Y : q_X) (b L k : Nat) (xs : Nat → Int32) (I : q_W → q_W → Prop) (u v : q_W) (hsim : q_sim_unlike I) (hI : I u v) (hin1 : vp_in (nI k + 1) L) (hin2 : vp_in (nI k + 2) L) (hin3 : vp_in (nI k + 3) L) (hin4 : vp_in (nI k + 4) L) (hin5 : vp_in (nI k + 5) L) (hin6 : vp_in (nI k + 6) L) (kk : ∀ u1 v1, I u1 v1 → q_LJ l X Y b L xs 1418 [(3, .int (nI k)), (0, .ref b), (1, .ref (X.2.2 0)), (2, .ref (Y.2.2 0))] [] u1 v1) : q_LJ l X Y b L xs 1220 [(3, .int (nI k)), (0, .ref b), (1, .ref (X.2.2 0)), (2, .ref (Y.2.2 0))] [] u v := by
  obtain ⟨r, u1, v1, hc, hr, hI1⟩ := hsim (xs (nI k + 1).toNatClampNeg) (xs (nI k + 2).toNatClampNeg) (xs (nI k + 3).toNatClampNeg) u v hI
  refine q_Laload_n 2 eL_1220 rfl rfl ?_
  refine q_Laload_n 1 eL_1221 rfl rfl ?_
  refine q_Liload_n 0 eL_1222 rfl rfl ?_
  refine q_Liconst (a := 1) eL_1223 kiconst_1 ?_
  refine q_Liadd eL_1224 ?_
  refine q_Lsld eL_1225 hin1 ?_
  refine q_Laload_n 1 eL_1226 rfl rfl ?_
  refine q_Liload_n 0 eL_1227 rfl rfl ?_
  refine q_Liconst (a := 2) eL_1228 kiconst_2 ?_
  refine q_Liadd eL_1229 ?_
  refine q_Lsld eL_1230 hin2 ?_
  refine q_Laload_n 1 eL_1231 rfl rfl ?_
  refine q_Liload_n 0 eL_1232 rfl rfl ?_
  refine q_Liconst (a := 3) eL_1233 kiconst_3 ?_
  refine q_Liadd eL_1234 ?_
  refine q_Lsld eL_1235 hin3 ?_
  refine q_LcallC (As := [.int (xs (nI k + 1).toNatClampNeg), .int (xs (nI k + 2).toNatClampNeg), .int (xs (nI k + 3).toNatClampNeg)]) (st := []) eL_1236 cv_L_132 (by rw [← hc]; exact kX10_unlike X l (xs (nI k + 1).toNatClampNeg) (xs (nI k + 2).toNatClampNeg) (xs (nI k + 3).toNatClampNeg) u) rfl rfl rfl rfl (Nat.le_of_ble_eq_true rfl) (by decide) ?_
  refine q_Laload_n 3 eL_1239 rfl rfl ?_
  refine q_Laload_n 1 eL_1240 rfl rfl ?_
  refine q_Liload_n 0 eL_1241 rfl rfl ?_
  refine q_Liconst (a := 1) eL_1242 kiconst_1 ?_
  refine q_Liadd eL_1243 ?_
  refine q_Lsld eL_1244 hin1 ?_
  refine q_Laload_n 1 eL_1245 rfl rfl ?_
  refine q_Liload_n 0 eL_1246 rfl rfl ?_
  refine q_Liconst (a := 2) eL_1247 kiconst_2 ?_
  refine q_Liadd eL_1248 ?_
  refine q_Lsld eL_1249 hin2 ?_
  refine q_Laload_n 1 eL_1250 rfl rfl ?_
  refine q_Liload_n 0 eL_1251 rfl rfl ?_
  refine q_Liconst (a := 3) eL_1252 kiconst_3 ?_
  refine q_Liadd eL_1253 ?_
  refine q_Lsld eL_1254 hin3 ?_
  refine q_LcallR (As := [.int (xs (nI k + 1).toNatClampNeg), .int (xs (nI k + 2).toNatClampNeg), .int (xs (nI k + 3).toNatClampNeg)]) (st := [.int r]) eL_1255 cv_L_135 (by rw [← hr]; exact kX11_unlike Y l (xs (nI k + 1).toNatClampNeg) (xs (nI k + 2).toNatClampNeg) (xs (nI k + 3).toNatClampNeg) v) rfl rfl rfl rfl (Nat.le_of_ble_eq_true rfl) (by decide) ?_
  refine q_Licmp_eq (tgt := 1418) eL_1258 (by decide) ?_
  exact kk u1 v1 hI1
theorem tb_1297 : Cond.methodLink R_law 136 mX10_made.2.1 ∈ q_tb := ch_5 _ (List.mem_of_getElem? (i := 214) rfl) rfl
theorem tb_1298 : Cond.instanceMethod mX10_made.2.1 ∈ q_tb := ch_5 _ (List.mem_of_getElem? (i := 215) rfl) rfl
theorem tb_1299 : Cond.selects mX10_made.2.1.cls mX10_made.2.1 mX10_made.2.1 ∈ q_tb := ch_5 _ (List.mem_of_getElem? (i := 216) rfl) rfl
theorem tb_1300 : Cond.code mX10_made.2.1 mX10_made.2.2.1 mX10_made.2.2.2.1 mX10_made.2.2.2.2 ∈ q_tb := ch_5 _ (List.mem_of_getElem? (i := 217) rfl) rfl
theorem cv_L_136 : q_CV R_law 136 mX10_made 2 := ⟨tb_1297, tb_1298, tb_1299, tb_124, tb_1300, ⟨by decide +kernel, by decide +kernel, by decide +kernel⟩, by decide⟩
theorem tb_1973 : Cond.methodLink R_law 139 mX11_made.2.1 ∈ q_tb := ch_8 _ (List.mem_of_getElem? (i := 170) rfl) rfl
theorem tb_1974 : Cond.instanceMethod mX11_made.2.1 ∈ q_tb := ch_8 _ (List.mem_of_getElem? (i := 171) rfl) rfl
theorem tb_1975 : Cond.selects mX11_made.2.1.cls mX11_made.2.1 mX11_made.2.1 ∈ q_tb := ch_8 _ (List.mem_of_getElem? (i := 172) rfl) rfl
theorem tb_1976 : Cond.code mX11_made.2.1 mX11_made.2.2.1 mX11_made.2.2.2.1 mX11_made.2.2.2.2 ∈ q_tb := ch_8 _ (List.mem_of_getElem? (i := 173) rfl) rfl
theorem cv_L_139 : q_CV R_law 139 mX11_made 2 := ⟨tb_1973, tb_1974, tb_1975, tb_140, tb_1976, ⟨by decide +kernel, by decide +kernel, by decide +kernel⟩, by decide⟩
def q_sim_made (I : q_W → q_W → Prop) : Prop := ∀ (a1 a2 : Int32) (u v : q_W), I u v → ∃ (r : Int32) (u1 v1 : q_W), fX10_made a1 a2 u = some (r, u1) ∧ fX11_made a1 a2 v = some (r, v1) ∧ I u1 v1
theorem law_29 (l : Launch) (X Y : q_X) (b L k : Nat) (xs : Nat → Int32) (I : q_W → q_W → Prop) (u v : q_W) (hsim : q_sim_made I) (hI : I u v) (hin1 : vp_in (nI k + 1) L) (hin2 : vp_in (nI k + 2) L) (hin3 : vp_in (nI k + 3) L) (hin4 : vp_in (nI k + 4) L) (hin5 : vp_in (nI k + 5) L) (hin6 : vp_in (nI k + 6) L) (kk : ∀ u1 v1, I u1 v1 → q_LJ l X Y b L xs 1418 [(3, .int (nI k)), (0, .ref b), (1, .ref (X.2.2 0)), (2, .ref (Y.2.2 0))] [] u1 v1) : q_LJ l X Y b L xs 1263 [(3, .int (nI k)), (0, .ref b), (1, .ref (X.2.2 0)), (2, .ref (Y.2.2 0))] [] u v := by
  obtain ⟨r, u1, v1, hc, hr, hI1⟩ := hsim (xs (nI k + 1).toNatClampNeg) (xs (nI k + 2).toNatClampNeg) u v hI
  refine q_Laload_n 2 eL_1263 rfl rfl ?_
  refine q_Laload_n 1 eL_1264 rfl rfl ?_
  refine q_Liload_n 0 eL_1265 rfl rfl ?_
  refine q_Liconst (a := 1) eL_1266 kiconst_1 ?_
  refine q_Liadd eL_1267 ?_
  refine q_Lsld eL_1268 hin1 ?_
  refine q_Laload_n 1 eL_1269 rfl rfl ?_
  refine q_Liload_n 0 eL_1270 rfl rfl ?_
  refine q_Liconst (a := 2) eL_1271 kiconst_2 ?_
  refine q_Liadd eL_1272 ?_
  refine q_Lsld eL_1273 hin2 ?_
  refine q_LcallC (As := [.int (xs (nI k + 1).toNatClampNeg), .int (xs (nI k + 2).toNatClampNeg)]) (st := []) eL_1274 cv_L_136 (by rw [← hc]; exact kX10_made X l (xs (nI k + 1).toNatClampNeg) (xs (nI k + 2).toNatClampNeg) u) rfl rfl rfl rfl (Nat.le_of_ble_eq_true rfl) (by decide) ?_
  refine q_Laload_n 3 eL_1277 rfl rfl ?_
  refine q_Laload_n 1 eL_1278 rfl rfl ?_
  refine q_Liload_n 0 eL_1279 rfl rfl ?_
  refine q_Liconst (a := 1) eL_1280 kiconst_1 ?_
  refine q_Liadd eL_1281 ?_
  refine q_Lsld eL_1282 hin1 ?_
  refine q_Laload_n 1 eL_1283 rfl rfl ?_
  refine q_Liload_n 0 eL_1284 rfl rfl ?_
  refine q_Liconst (a := 2) eL_1285 kiconst_2 ?_
  refine q_Liadd eL_1286 ?_
  refine q_Lsld eL_1287 hin2 ?_
  refine q_LcallR (As := [.int (xs (nI k + 1).toNatClampNeg), .int (xs (nI k + 2).toNatClampNeg)]) (st := [.int r]) eL_1288 cv_L_139 (by rw [← hr]; exact kX11_made Y l (xs (nI k + 1).toNatClampNeg) (xs (nI k + 2).toNatClampNeg) v) rfl rfl rfl rfl (Nat.le_of_ble_eq_true rfl) (by decide) ?_
  refine q_Licmp_eq (tgt := 1418) eL_1291 (by decide) ?_
  exact kk u1 v1 hI1
theorem tb_1328 : Cond.methodLink R_law 140 mX10_off.2.1 ∈ q_tb := ch_6 _ (List.mem_of_getElem? (i := 5) rfl) rfl
theorem tb_1329 : Cond.instanceMethod mX10_off.2.1 ∈ q_tb := ch_6 _ (List.mem_of_getElem? (i := 6) rfl) rfl
theorem tb_1330 : Cond.selects mX10_off.2.1.cls mX10_off.2.1 mX10_off.2.1 ∈ q_tb := ch_6 _ (List.mem_of_getElem? (i := 7) rfl) rfl
theorem tb_1331 : Cond.code mX10_off.2.1 mX10_off.2.2.1 mX10_off.2.2.2.1 mX10_off.2.2.2.2 ∈ q_tb := ch_6 _ (List.mem_of_getElem? (i := 8) rfl) rfl
theorem cv_L_140 : q_CV R_law 140 mX10_off 2 := ⟨tb_1328, tb_1329, tb_1330, tb_124, tb_1331, ⟨by decide +kernel, by decide +kernel, by decide +kernel⟩, by decide⟩
theorem tb_1985 : Cond.methodLink R_law 143 mX11_off.2.1 ∈ q_tb := ch_8 _ (List.mem_of_getElem? (i := 182) rfl) rfl
theorem tb_1986 : Cond.instanceMethod mX11_off.2.1 ∈ q_tb := ch_8 _ (List.mem_of_getElem? (i := 183) rfl) rfl
theorem tb_1987 : Cond.selects mX11_off.2.1.cls mX11_off.2.1 mX11_off.2.1 ∈ q_tb := ch_8 _ (List.mem_of_getElem? (i := 184) rfl) rfl
theorem tb_1988 : Cond.code mX11_off.2.1 mX11_off.2.2.1 mX11_off.2.2.2.1 mX11_off.2.2.2.2 ∈ q_tb := ch_8 _ (List.mem_of_getElem? (i := 185) rfl) rfl
theorem cv_L_143 : q_CV R_law 143 mX11_off 2 := ⟨tb_1985, tb_1986, tb_1987, tb_140, tb_1988, ⟨by decide +kernel, by decide +kernel, by decide +kernel⟩, by decide⟩
def q_sim_off (I : q_W → q_W → Prop) : Prop := ∀ (a1 a2 : Int32) (u v : q_W), I u v → ∃ (r : Int32) (u1 v1 : q_W), fX10_off a1 a2 u = some (r, u1) ∧ fX11_off a1 a2 v = some (r, v1) ∧ I u1 v1
theorem law_30 (l : Launch) (X Y : q_X) (b L k : Nat) (xs : Nat → Int32) (I : q_W → q_W → Prop) (u v : q_W) (hsim : q_sim_off I) (hI : I u v) (hin1 : vp_in (nI k + 1) L) (hin2 : vp_in (nI k + 2) L) (hin3 : vp_in (nI k + 3) L) (hin4 : vp_in (nI k + 4) L) (hin5 : vp_in (nI k + 5) L) (hin6 : vp_in (nI k + 6) L) (kk : ∀ u1 v1, I u1 v1 → q_LJ l X Y b L xs 1418 [(3, .int (nI k)), (0, .ref b), (1, .ref (X.2.2 0)), (2, .ref (Y.2.2 0))] [] u1 v1) : q_LJ l X Y b L xs 1296 [(3, .int (nI k)), (0, .ref b), (1, .ref (X.2.2 0)), (2, .ref (Y.2.2 0))] [] u v := by
  obtain ⟨r, u1, v1, hc, hr, hI1⟩ := hsim (xs (nI k + 1).toNatClampNeg) (xs (nI k + 2).toNatClampNeg) u v hI
  refine q_Laload_n 2 eL_1296 rfl rfl ?_
  refine q_Laload_n 1 eL_1297 rfl rfl ?_
  refine q_Liload_n 0 eL_1298 rfl rfl ?_
  refine q_Liconst (a := 1) eL_1299 kiconst_1 ?_
  refine q_Liadd eL_1300 ?_
  refine q_Lsld eL_1301 hin1 ?_
  refine q_Laload_n 1 eL_1302 rfl rfl ?_
  refine q_Liload_n 0 eL_1303 rfl rfl ?_
  refine q_Liconst (a := 2) eL_1304 kiconst_2 ?_
  refine q_Liadd eL_1305 ?_
  refine q_Lsld eL_1306 hin2 ?_
  refine q_LcallC (As := [.int (xs (nI k + 1).toNatClampNeg), .int (xs (nI k + 2).toNatClampNeg)]) (st := []) eL_1307 cv_L_140 (by rw [← hc]; exact kX10_off X l (xs (nI k + 1).toNatClampNeg) (xs (nI k + 2).toNatClampNeg) u) rfl rfl rfl rfl (Nat.le_of_ble_eq_true rfl) (by decide) ?_
  refine q_Laload_n 3 eL_1310 rfl rfl ?_
  refine q_Laload_n 1 eL_1311 rfl rfl ?_
  refine q_Liload_n 0 eL_1312 rfl rfl ?_
  refine q_Liconst (a := 1) eL_1313 kiconst_1 ?_
  refine q_Liadd eL_1314 ?_
  refine q_Lsld eL_1315 hin1 ?_
  refine q_Laload_n 1 eL_1316 rfl rfl ?_
  refine q_Liload_n 0 eL_1317 rfl rfl ?_
  refine q_Liconst (a := 2) eL_1318 kiconst_2 ?_
  refine q_Liadd eL_1319 ?_
  refine q_Lsld eL_1320 hin2 ?_
  refine q_LcallR (As := [.int (xs (nI k + 1).toNatClampNeg), .int (xs (nI k + 2).toNatClampNeg)]) (st := [.int r]) eL_1321 cv_L_143 (by rw [← hr]; exact kX11_off Y l (xs (nI k + 1).toNatClampNeg) (xs (nI k + 2).toNatClampNeg) v) rfl rfl rfl rfl (Nat.le_of_ble_eq_true rfl) (by decide) ?_
  refine q_Licmp_eq (tgt := 1418) eL_1324 (by decide) ?_
  exact kk u1 v1 hI1
theorem tb_1336 : Cond.methodLink R_law 144 mX10_row.2.1 ∈ q_tb := ch_6 _ (List.mem_of_getElem? (i := 13) rfl) rfl
theorem tb_1337 : Cond.instanceMethod mX10_row.2.1 ∈ q_tb := ch_6 _ (List.mem_of_getElem? (i := 14) rfl) rfl
theorem tb_1338 : Cond.selects mX10_row.2.1.cls mX10_row.2.1 mX10_row.2.1 ∈ q_tb := ch_6 _ (List.mem_of_getElem? (i := 15) rfl) rfl
theorem tb_1339 : Cond.code mX10_row.2.1 mX10_row.2.2.1 mX10_row.2.2.2.1 mX10_row.2.2.2.2 ∈ q_tb := ch_6 _ (List.mem_of_getElem? (i := 16) rfl) rfl
theorem cv_L_144 : q_CV R_law 144 mX10_row 3 := ⟨tb_1336, tb_1337, tb_1338, tb_124, tb_1339, ⟨by decide +kernel, by decide +kernel, by decide +kernel⟩, by decide⟩
theorem tb_1989 : Cond.methodLink R_law 147 mX11_row.2.1 ∈ q_tb := ch_8 _ (List.mem_of_getElem? (i := 186) rfl) rfl
theorem tb_1990 : Cond.instanceMethod mX11_row.2.1 ∈ q_tb := ch_8 _ (List.mem_of_getElem? (i := 187) rfl) rfl
theorem tb_1991 : Cond.selects mX11_row.2.1.cls mX11_row.2.1 mX11_row.2.1 ∈ q_tb := ch_8 _ (List.mem_of_getElem? (i := 188) rfl) rfl
theorem tb_1992 : Cond.code mX11_row.2.1 mX11_row.2.2.1 mX11_row.2.2.2.1 mX11_row.2.2.2.2 ∈ q_tb := ch_8 _ (List.mem_of_getElem? (i := 189) rfl) rfl
theorem cv_L_147 : q_CV R_law 147 mX11_row 3 := ⟨tb_1989, tb_1990, tb_1991, tb_140, tb_1992, ⟨by decide +kernel, by decide +kernel, by decide +kernel⟩, by decide⟩
def q_sim_row (I : q_W → q_W → Prop) : Prop := ∀ (a1 a2 a3 : Int32) (u v : q_W), I u v → ∃ (r : Int32) (u1 v1 : q_W), fX10_row a1 a2 a3 u = some (r, u1) ∧ fX11_row a1 a2 a3 v = some (r, v1) ∧ I u1 v1
theorem law_31 (l : Launch) (X Y : q_X) (b L k : Nat) (xs : Nat → Int32) (I : q_W → q_W → Prop) (u v : q_W) (hsim : q_sim_row I) (hI : I u v) (hin1 : vp_in (nI k + 1) L) (hin2 : vp_in (nI k + 2) L) (hin3 : vp_in (nI k + 3) L) (hin4 : vp_in (nI k + 4) L) (hin5 : vp_in (nI k + 5) L) (hin6 : vp_in (nI k + 6) L) (kk : ∀ u1 v1, I u1 v1 → q_LJ l X Y b L xs 1418 [(3, .int (nI k)), (0, .ref b), (1, .ref (X.2.2 0)), (2, .ref (Y.2.2 0))] [] u1 v1) : q_LJ l X Y b L xs 1329 [(3, .int (nI k)), (0, .ref b), (1, .ref (X.2.2 0)), (2, .ref (Y.2.2 0))] [] u v := by
  obtain ⟨r, u1, v1, hc, hr, hI1⟩ := hsim (xs (nI k + 1).toNatClampNeg) (xs (nI k + 2).toNatClampNeg) (xs (nI k + 3).toNatClampNeg) u v hI
  refine q_Laload_n 2 eL_1329 rfl rfl ?_
  refine q_Laload_n 1 eL_1330 rfl rfl ?_
  refine q_Liload_n 0 eL_1331 rfl rfl ?_
  refine q_Liconst (a := 1) eL_1332 kiconst_1 ?_
  refine q_Liadd eL_1333 ?_
  refine q_Lsld eL_1334 hin1 ?_
  refine q_Laload_n 1 eL_1335 rfl rfl ?_
  refine q_Liload_n 0 eL_1336 rfl rfl ?_
  refine q_Liconst (a := 2) eL_1337 kiconst_2 ?_
  refine q_Liadd eL_1338 ?_
  refine q_Lsld eL_1339 hin2 ?_
  refine q_Laload_n 1 eL_1340 rfl rfl ?_
  refine q_Liload_n 0 eL_1341 rfl rfl ?_
  refine q_Liconst (a := 3) eL_1342 kiconst_3 ?_
  refine q_Liadd eL_1343 ?_
  refine q_Lsld eL_1344 hin3 ?_
  refine q_LcallC (As := [.int (xs (nI k + 1).toNatClampNeg), .int (xs (nI k + 2).toNatClampNeg), .int (xs (nI k + 3).toNatClampNeg)]) (st := []) eL_1345 cv_L_144 (by rw [← hc]; exact kX10_row X l (xs (nI k + 1).toNatClampNeg) (xs (nI k + 2).toNatClampNeg) (xs (nI k + 3).toNatClampNeg) u) rfl rfl rfl rfl (Nat.le_of_ble_eq_true rfl) (by decide) ?_
  refine q_Laload_n 3 eL_1348 rfl rfl ?_
  refine q_Laload_n 1 eL_1349 rfl rfl ?_
  refine q_Liload_n 0 eL_1350 rfl rfl ?_
  refine q_Liconst (a := 1) eL_1351 kiconst_1 ?_
  refine q_Liadd eL_1352 ?_
  refine q_Lsld eL_1353 hin1 ?_
  refine q_Laload_n 1 eL_1354 rfl rfl ?_
  refine q_Liload_n 0 eL_1355 rfl rfl ?_
  refine q_Liconst (a := 2) eL_1356 kiconst_2 ?_
  refine q_Liadd eL_1357 ?_
  refine q_Lsld eL_1358 hin2 ?_
  refine q_Laload_n 1 eL_1359 rfl rfl ?_
  refine q_Liload_n 0 eL_1360 rfl rfl ?_
  refine q_Liconst (a := 3) eL_1361 kiconst_3 ?_
  refine q_Liadd eL_1362 ?_
  refine q_Lsld eL_1363 hin3 ?_
  refine q_LcallR (As := [.int (xs (nI k + 1).toNatClampNeg), .int (xs (nI k + 2).toNatClampNeg), .int (xs (nI k + 3).toNatClampNeg)]) (st := [.int r]) eL_1364 cv_L_147 (by rw [← hr]; exact kX11_row Y l (xs (nI k + 1).toNatClampNeg) (xs (nI k + 2).toNatClampNeg) (xs (nI k + 3).toNatClampNeg) v) rfl rfl rfl rfl (Nat.le_of_ble_eq_true rfl) (by decide) ?_
  refine q_Licmp_eq (tgt := 1418) eL_1367 (by decide) ?_
  exact kk u1 v1 hI1
theorem tb_1374 : Cond.methodLink R_law 148 mX10_rowed.2.1 ∈ q_tb := ch_6 _ (List.mem_of_getElem? (i := 51) rfl) rfl
theorem tb_1375 : Cond.instanceMethod mX10_rowed.2.1 ∈ q_tb := ch_6 _ (List.mem_of_getElem? (i := 52) rfl) rfl
theorem tb_1376 : Cond.selects mX10_rowed.2.1.cls mX10_rowed.2.1 mX10_rowed.2.1 ∈ q_tb := ch_6 _ (List.mem_of_getElem? (i := 53) rfl) rfl
theorem tb_1377 : Cond.code mX10_rowed.2.1 mX10_rowed.2.2.1 mX10_rowed.2.2.2.1 mX10_rowed.2.2.2.2 ∈ q_tb := ch_6 _ (List.mem_of_getElem? (i := 54) rfl) rfl
theorem cv_L_148 : q_CV R_law 148 mX10_rowed 1 := ⟨tb_1374, tb_1375, tb_1376, tb_124, tb_1377, ⟨by decide +kernel, by decide +kernel, by decide +kernel⟩, by decide⟩
theorem tb_1993 : Cond.methodLink R_law 151 mX11_rowed.2.1 ∈ q_tb := ch_8 _ (List.mem_of_getElem? (i := 190) rfl) rfl
theorem tb_1994 : Cond.instanceMethod mX11_rowed.2.1 ∈ q_tb := ch_8 _ (List.mem_of_getElem? (i := 191) rfl) rfl
theorem tb_1995 : Cond.selects mX11_rowed.2.1.cls mX11_rowed.2.1 mX11_rowed.2.1 ∈ q_tb := ch_8 _ (List.mem_of_getElem? (i := 192) rfl) rfl
theorem tb_1996 : Cond.code mX11_rowed.2.1 mX11_rowed.2.2.1 mX11_rowed.2.2.2.1 mX11_rowed.2.2.2.2 ∈ q_tb := ch_8 _ (List.mem_of_getElem? (i := 193) rfl) rfl
theorem cv_L_151 : q_CV R_law 151 mX11_rowed 1 := ⟨tb_1993, tb_1994, tb_1995, tb_140, tb_1996, ⟨by decide +kernel, by decide +kernel, by decide +kernel⟩, by decide⟩
def q_sim_rowed (I : q_W → q_W → Prop) : Prop := ∀ (a1 : Int32) (u v : q_W), I u v → ∃ (r : Int32) (u1 v1 : q_W), fX10_rowed a1 u = some (r, u1) ∧ fX11_rowed a1 v = some (r, v1) ∧ I u1 v1
theorem law_32 (l : Launch) (X Y : q_X) (b L k : Nat) (xs : Nat → Int32) (I : q_W → q_W → Prop) (u v : q_W) (hsim : q_sim_rowed I) (hI : I u v) (hin1 : vp_in (nI k + 1) L) (hin2 : vp_in (nI k + 2) L) (hin3 : vp_in (nI k + 3) L) (hin4 : vp_in (nI k + 4) L) (hin5 : vp_in (nI k + 5) L) (hin6 : vp_in (nI k + 6) L) (kk : ∀ u1 v1, I u1 v1 → q_LJ l X Y b L xs 1418 [(3, .int (nI k)), (0, .ref b), (1, .ref (X.2.2 0)), (2, .ref (Y.2.2 0))] [] u1 v1) : q_LJ l X Y b L xs 1372 [(3, .int (nI k)), (0, .ref b), (1, .ref (X.2.2 0)), (2, .ref (Y.2.2 0))] [] u v := by
  obtain ⟨r, u1, v1, hc, hr, hI1⟩ := hsim (xs (nI k + 1).toNatClampNeg) u v hI
  refine q_Laload_n 2 eL_1372 rfl rfl ?_
  refine q_Laload_n 1 eL_1373 rfl rfl ?_
  refine q_Liload_n 0 eL_1374 rfl rfl ?_
  refine q_Liconst (a := 1) eL_1375 kiconst_1 ?_
  refine q_Liadd eL_1376 ?_
  refine q_Lsld eL_1377 hin1 ?_
  refine q_LcallC (As := [.int (xs (nI k + 1).toNatClampNeg)]) (st := []) eL_1378 cv_L_148 (by rw [← hc]; exact kX10_rowed X l (xs (nI k + 1).toNatClampNeg) u) rfl rfl rfl rfl (Nat.le_of_ble_eq_true rfl) (by decide) ?_
  refine q_Laload_n 3 eL_1381 rfl rfl ?_
  refine q_Laload_n 1 eL_1382 rfl rfl ?_
  refine q_Liload_n 0 eL_1383 rfl rfl ?_
  refine q_Liconst (a := 1) eL_1384 kiconst_1 ?_
  refine q_Liadd eL_1385 ?_
  refine q_Lsld eL_1386 hin1 ?_
  refine q_LcallR (As := [.int (xs (nI k + 1).toNatClampNeg)]) (st := [.int r]) eL_1387 cv_L_151 (by rw [← hr]; exact kX11_rowed Y l (xs (nI k + 1).toNatClampNeg) v) rfl rfl rfl rfl (Nat.le_of_ble_eq_true rfl) (by decide) ?_
  refine q_Licmp_eq (tgt := 1418) eL_1390 (by decide) ?_
  exact kk u1 v1 hI1
theorem tb_1382 : Cond.methodLink R_law 152 mX10_count.2.1 ∈ q_tb := ch_6 _ (List.mem_of_getElem? (i := 59) rfl) rfl
theorem tb_1383 : Cond.instanceMethod mX10_count.2.1 ∈ q_tb := ch_6 _ (List.mem_of_getElem? (i := 60) rfl) rfl
theorem tb_1384 : Cond.selects mX10_count.2.1.cls mX10_count.2.1 mX10_count.2.1 ∈ q_tb := ch_6 _ (List.mem_of_getElem? (i := 61) rfl) rfl
theorem tb_1385 : Cond.code mX10_count.2.1 mX10_count.2.2.1 mX10_count.2.2.2.1 mX10_count.2.2.2.2 ∈ q_tb := ch_6 _ (List.mem_of_getElem? (i := 62) rfl) rfl
theorem cv_L_152 : q_CV R_law 152 mX10_count 1 := ⟨tb_1382, tb_1383, tb_1384, tb_124, tb_1385, ⟨by decide +kernel, by decide +kernel, by decide +kernel⟩, by decide⟩
theorem tb_1997 : Cond.methodLink R_law 155 mX11_count.2.1 ∈ q_tb := ch_8 _ (List.mem_of_getElem? (i := 194) rfl) rfl
theorem tb_1998 : Cond.instanceMethod mX11_count.2.1 ∈ q_tb := ch_8 _ (List.mem_of_getElem? (i := 195) rfl) rfl
theorem tb_1999 : Cond.selects mX11_count.2.1.cls mX11_count.2.1 mX11_count.2.1 ∈ q_tb := ch_8 _ (List.mem_of_getElem? (i := 196) rfl) rfl
theorem tb_2000 : Cond.code mX11_count.2.1 mX11_count.2.2.1 mX11_count.2.2.2.1 mX11_count.2.2.2.2 ∈ q_tb := ch_8 _ (List.mem_of_getElem? (i := 197) rfl) rfl
theorem cv_L_155 : q_CV R_law 155 mX11_count 1 := ⟨tb_1997, tb_1998, tb_1999, tb_140, tb_2000, ⟨by decide +kernel, by decide +kernel, by decide +kernel⟩, by decide⟩
def q_sim_count (I : q_W → q_W → Prop) : Prop := ∀ (a1 : Int32) (u v : q_W), I u v → ∃ (r : Int32) (u1 v1 : q_W), fX10_count a1 u = some (r, u1) ∧ fX11_count a1 v = some (r, v1) ∧ I u1 v1
theorem law_33 (l : Launch) (X Y : q_X) (b L k : Nat) (xs : Nat → Int32) (I : q_W → q_W → Prop) (u v : q_W) (hsim : q_sim_count I) (hI : I u v) (hin1 : vp_in (nI k + 1) L) (hin2 : vp_in (nI k + 2) L) (hin3 : vp_in (nI k + 3) L) (hin4 : vp_in (nI k + 4) L) (hin5 : vp_in (nI k + 5) L) (hin6 : vp_in (nI k + 6) L) (kk : ∀ u1 v1, I u1 v1 → q_LJ l X Y b L xs 1418 [(3, .int (nI k)), (0, .ref b), (1, .ref (X.2.2 0)), (2, .ref (Y.2.2 0))] [] u1 v1) : q_LJ l X Y b L xs 1395 [(3, .int (nI k)), (0, .ref b), (1, .ref (X.2.2 0)), (2, .ref (Y.2.2 0))] [] u v := by
  obtain ⟨r, u1, v1, hc, hr, hI1⟩ := hsim (xs (nI k + 1).toNatClampNeg) u v hI
  refine q_Laload_n 2 eL_1395 rfl rfl ?_
  refine q_Laload_n 1 eL_1396 rfl rfl ?_
  refine q_Liload_n 0 eL_1397 rfl rfl ?_
  refine q_Liconst (a := 1) eL_1398 kiconst_1 ?_
  refine q_Liadd eL_1399 ?_
  refine q_Lsld eL_1400 hin1 ?_
  refine q_LcallC (As := [.int (xs (nI k + 1).toNatClampNeg)]) (st := []) eL_1401 cv_L_152 (by rw [← hc]; exact kX10_count X l (xs (nI k + 1).toNatClampNeg) u) rfl rfl rfl rfl (Nat.le_of_ble_eq_true rfl) (by decide) ?_
  refine q_Laload_n 3 eL_1404 rfl rfl ?_
  refine q_Laload_n 1 eL_1405 rfl rfl ?_
  refine q_Liload_n 0 eL_1406 rfl rfl ?_
  refine q_Liconst (a := 1) eL_1407 kiconst_1 ?_
  refine q_Liadd eL_1408 ?_
  refine q_Lsld eL_1409 hin1 ?_
  refine q_LcallR (As := [.int (xs (nI k + 1).toNatClampNeg)]) (st := [.int r]) eL_1410 cv_L_155 (by rw [← hr]; exact kX11_count Y l (xs (nI k + 1).toNatClampNeg) v) rfl rfl rfl rfl (Nat.le_of_ble_eq_true rfl) (by decide) ?_
  refine q_Licmp_eq (tgt := 1418) eL_1413 (by decide) ?_
  exact kk u1 v1 hI1
def q_Sim (I : q_W → q_W → Prop) : Prop := q_sim_feed I ∧ q_sim_back I ∧ q_sim_read I ∧ q_sim_place I ∧ q_sim_drop I ∧ q_sim_line I ∧ q_sim_comb I ∧ q_sim_wave I ∧ q_sim_lay I ∧ q_sim_strike I ∧ q_sim_run I ∧ q_sim_broke I ∧ q_sim_where I ∧ q_sim_parameters I ∧ q_sim_kind I ∧ q_sim_number I ∧ q_sim_struck I ∧ q_sim_colour I ∧ q_sim_from I ∧ q_sim_to I ∧ q_sim_home I ∧ q_sim_sheets I ∧ q_sim_cell I ∧ q_sim_area I ∧ q_sim_pieces I ∧ q_sim_largest I ∧ q_sim_edge I ∧ q_sim_match I ∧ q_sim_unlike I ∧ q_sim_made I ∧ q_sim_off I ∧ q_sim_row I ∧ q_sim_rowed I ∧ q_sim_count I
set_option maxHeartbeats 4000000 in
set_option maxRecDepth 100000 in
theorem law_loop (l : Launch) (X Y : q_X) (b L : Nat) (xs : Nat → Int32) (hL : L ≤ 3584) (I : q_W → q_W → Prop) (hsim : q_Sim I) : ∀ (n k : Nat) (u v : q_W), k ≤ L + 7 → L + 7 - k < n → I u v → q_LJ l X Y b L xs 18 [(3, .int (nI k)), (0, .ref b), (1, .ref (X.2.2 0)), (2, .ref (Y.2.2 0))] [] u v := by
  obtain ⟨h0, h1, h2, h3, h4, h5, h6, h7, h8, h9, h10, h11, h12, h13, h14, h15, h16, h17, h18, h19, h20, h21, h22, h23, h24, h25, h26, h27, h28, h29, h30, h31, h32, h33⟩ := hsim
  intro n
  induction n with
  | zero => intro k u v _ h; omega
  | succ n ih =>
    intro k u v hk hn hI
    refine q_Liload_n 0 eL_18 rfl rfl ?_
    refine q_Laload_n 1 eL_19 rfl rfl ?_
    refine q_Lslen eL_20 ?_
    refine q_Lbipush (a := 7) eL_21 kbipush_7 ?_
    refine q_Lisub eL_23 ?_
    refine q_Licmp_gt (tgt := 1424) eL_24 (by decide) (fun _ => ?_) (fun z => ?_)
    · refine q_Liconst (a := 1) eL_1424 kiconst_1 ?_
      exact q_Lret eL_1425
    · have hkL : k + 7 ≤ L := by
        apply Nat.le_of_not_lt
        intro h
        apply z
        rw [Int32.lt_iff_toInt_lt, nI_toInt (by omega)]
        have e1 := pk_sub_toInt (a := L) (b := 7) (by omega) (by omega)
        rw [show (nI L - nI 7 : Int32) = Int32.ofNat L - 7 from rfl] at e1
        rw [e1]
        omega
      have hin : ∀ z, z < 7 → vp_in (nI k + nI z) L := fun z hz => by rw [nI_add]; exact vp_in_nI (by omega) (by omega)
      have kk : ∀ u1 v1, I u1 v1 → q_LJ l X Y b L xs 1418 [(3, .int (nI k)), (0, .ref b), (1, .ref (X.2.2 0)), (2, .ref (Y.2.2 0))] [] u1 v1 := by
        intro u1 v1 hI1
        refine q_Liinc (a' := nI (k + 7)) (lv' := [(3, .int (nI (k + 7))), (0, .ref b), (1, .ref (X.2.2 0)), (2, .ref (Y.2.2 0))]) 0 eL_1418 rfl (nI_add k 7) (by decide) rfl ?_
        refine q_Lgoto (tgt := 18) eL_1421 (by decide) ?_
        exact ih (k + 7) u1 v1 (by omega) (by omega) hI1
      refine q_Laload_n 1 eL_27 rfl rfl ?_
      refine q_Liload_n 0 eL_28 rfl rfl ?_
      refine q_Lsld eL_29 (vp_in_nI (by omega) (by omega)) ?_
      refine q_Lbipush (a := 63) eL_30 kbipush_63 ?_
      refine q_Liand eL_32 ?_
      generalize (xs (nI k).toNatClampNeg &&& 63) = sw
      by_cases c0 : sw = 0
      · exact q_LtabIn (off := 151) (tgt := 184) eL_33 (by rw [c0]; decide) (by rw [c0]; decide) (by rw [c0]; rfl) (by decide) (law_0 l X Y b L k xs I u v h0 hI (hin 1 (by omega)) (hin 2 (by omega)) (hin 3 (by omega)) (hin 4 (by omega)) (hin 5 (by omega)) (hin 6 (by omega)) kk)
      by_cases c1 : sw = 1
      · exact q_LtabIn (off := 214) (tgt := 247) eL_33 (by rw [c1]; decide) (by rw [c1]; decide) (by rw [c1]; rfl) (by decide) (law_1 l X Y b L k xs I u v h1 hI (hin 1 (by omega)) (hin 2 (by omega)) (hin 3 (by omega)) (hin 4 (by omega)) (hin 5 (by omega)) (hin 6 (by omega)) kk)
      by_cases c2 : sw = 2
      · exact q_LtabIn (off := 237) (tgt := 270) eL_33 (by rw [c2]; decide) (by rw [c2]; decide) (by rw [c2]; rfl) (by decide) (law_2 l X Y b L k xs I u v h2 hI (hin 1 (by omega)) (hin 2 (by omega)) (hin 3 (by omega)) (hin 4 (by omega)) (hin 5 (by omega)) (hin 6 (by omega)) kk)
      by_cases c3 : sw = 3
      · exact q_LtabIn (off := 250) (tgt := 283) eL_33 (by rw [c3]; decide) (by rw [c3]; decide) (by rw [c3]; rfl) (by decide) (law_3 l X Y b L k xs I u v h3 hI (hin 1 (by omega)) (hin 2 (by omega)) (hin 3 (by omega)) (hin 4 (by omega)) (hin 5 (by omega)) (hin 6 (by omega)) kk)
      by_cases c4 : sw = 4
      · exact q_LtabIn (off := 263) (tgt := 296) eL_33 (by rw [c4]; decide) (by rw [c4]; decide) (by rw [c4]; rfl) (by decide) (law_4 l X Y b L k xs I u v h4 hI (hin 1 (by omega)) (hin 2 (by omega)) (hin 3 (by omega)) (hin 4 (by omega)) (hin 5 (by omega)) (hin 6 (by omega)) kk)
      by_cases c5 : sw = 5
      · exact q_LtabIn (off := 316) (tgt := 349) eL_33 (by rw [c5]; decide) (by rw [c5]; decide) (by rw [c5]; rfl) (by decide) (law_5 l X Y b L k xs I u v h5 hI (hin 1 (by omega)) (hin 2 (by omega)) (hin 3 (by omega)) (hin 4 (by omega)) (hin 5 (by omega)) (hin 6 (by omega)) kk)
      by_cases c6 : sw = 6
      · exact q_LtabIn (off := 369) (tgt := 402) eL_33 (by rw [c6]; decide) (by rw [c6]; decide) (by rw [c6]; rfl) (by decide) (law_6 l X Y b L k xs I u v h6 hI (hin 1 (by omega)) (hin 2 (by omega)) (hin 3 (by omega)) (hin 4 (by omega)) (hin 5 (by omega)) (hin 6 (by omega)) kk)
      by_cases c7 : sw = 7
      · exact q_LtabIn (off := 444) (tgt := 477) eL_33 (by rw [c7]; decide) (by rw [c7]; decide) (by rw [c7]; rfl) (by decide) (law_7 l X Y b L k xs I u v h7 hI (hin 1 (by omega)) (hin 2 (by omega)) (hin 3 (by omega)) (hin 4 (by omega)) (hin 5 (by omega)) (hin 6 (by omega)) kk)
      by_cases c8 : sw = 8
      · exact q_LtabIn (off := 487) (tgt := 520) eL_33 (by rw [c8]; decide) (by rw [c8]; decide) (by rw [c8]; rfl) (by decide) (law_8 l X Y b L k xs I u v h8 hI (hin 1 (by omega)) (hin 2 (by omega)) (hin 3 (by omega)) (hin 4 (by omega)) (hin 5 (by omega)) (hin 6 (by omega)) kk)
      by_cases c9 : sw = 9
      · exact q_LtabIn (off := 510) (tgt := 543) eL_33 (by rw [c9]; decide) (by rw [c9]; decide) (by rw [c9]; rfl) (by decide) (law_9 l X Y b L k xs I u v h9 hI (hin 1 (by omega)) (hin 2 (by omega)) (hin 3 (by omega)) (hin 4 (by omega)) (hin 5 (by omega)) (hin 6 (by omega)) kk)
      by_cases c10 : sw = 10
      · exact q_LtabIn (off := 533) (tgt := 566) eL_33 (by rw [c10]; decide) (by rw [c10]; decide) (by rw [c10]; rfl) (by decide) (law_10 l X Y b L k xs I u v h10 hI (hin 1 (by omega)) (hin 2 (by omega)) (hin 3 (by omega)) (hin 4 (by omega)) (hin 5 (by omega)) (hin 6 (by omega)) kk)
      by_cases c11 : sw = 11
      · exact q_LtabIn (off := 576) (tgt := 609) eL_33 (by rw [c11]; decide) (by rw [c11]; decide) (by rw [c11]; rfl) (by decide) (law_11 l X Y b L k xs I u v h11 hI (hin 1 (by omega)) (hin 2 (by omega)) (hin 3 (by omega)) (hin 4 (by omega)) (hin 5 (by omega)) (hin 6 (by omega)) kk)
      by_cases c12 : sw = 12
      · exact q_LtabIn (off := 589) (tgt := 622) eL_33 (by rw [c12]; decide) (by rw [c12]; decide) (by rw [c12]; rfl) (by decide) (law_12 l X Y b L k xs I u v h12 hI (hin 1 (by omega)) (hin 2 (by omega)) (hin 3 (by omega)) (hin 4 (by omega)) (hin 5 (by omega)) (hin 6 (by omega)) kk)
      by_cases c13 : sw = 13
      · exact q_LtabIn (off := 602) (tgt := 635) eL_33 (by rw [c13]; decide) (by rw [c13]; decide) (by rw [c13]; rfl) (by decide) (law_13 l X Y b L k xs I u v h13 hI (hin 1 (by omega)) (hin 2 (by omega)) (hin 3 (by omega)) (hin 4 (by omega)) (hin 5 (by omega)) (hin 6 (by omega)) kk)
      by_cases c14 : sw = 14
      · exact q_LtabIn (off := 625) (tgt := 658) eL_33 (by rw [c14]; decide) (by rw [c14]; decide) (by rw [c14]; rfl) (by decide) (law_14 l X Y b L k xs I u v h14 hI (hin 1 (by omega)) (hin 2 (by omega)) (hin 3 (by omega)) (hin 4 (by omega)) (hin 5 (by omega)) (hin 6 (by omega)) kk)
      by_cases c15 : sw = 15
      · exact q_LtabIn (off := 648) (tgt := 681) eL_33 (by rw [c15]; decide) (by rw [c15]; decide) (by rw [c15]; rfl) (by decide) (law_15 l X Y b L k xs I u v h15 hI (hin 1 (by omega)) (hin 2 (by omega)) (hin 3 (by omega)) (hin 4 (by omega)) (hin 5 (by omega)) (hin 6 (by omega)) kk)
      by_cases c16 : sw = 16
      · exact q_LtabIn (off := 681) (tgt := 714) eL_33 (by rw [c16]; decide) (by rw [c16]; decide) (by rw [c16]; rfl) (by decide) (law_16 l X Y b L k xs I u v h16 hI (hin 1 (by omega)) (hin 2 (by omega)) (hin 3 (by omega)) (hin 4 (by omega)) (hin 5 (by omega)) (hin 6 (by omega)) kk)
      by_cases c17 : sw = 17
      · exact q_LtabIn (off := 714) (tgt := 747) eL_33 (by rw [c17]; decide) (by rw [c17]; decide) (by rw [c17]; rfl) (by decide) (law_17 l X Y b L k xs I u v h17 hI (hin 1 (by omega)) (hin 2 (by omega)) (hin 3 (by omega)) (hin 4 (by omega)) (hin 5 (by omega)) (hin 6 (by omega)) kk)
      by_cases c18 : sw = 18
      · exact q_LtabIn (off := 757) (tgt := 790) eL_33 (by rw [c18]; decide) (by rw [c18]; decide) (by rw [c18]; rfl) (by decide) (law_18 l X Y b L k xs I u v h18 hI (hin 1 (by omega)) (hin 2 (by omega)) (hin 3 (by omega)) (hin 4 (by omega)) (hin 5 (by omega)) (hin 6 (by omega)) kk)
      by_cases c19 : sw = 19
      · exact q_LtabIn (off := 810) (tgt := 843) eL_33 (by rw [c19]; decide) (by rw [c19]; decide) (by rw [c19]; rfl) (by decide) (law_19 l X Y b L k xs I u v h19 hI (hin 1 (by omega)) (hin 2 (by omega)) (hin 3 (by omega)) (hin 4 (by omega)) (hin 5 (by omega)) (hin 6 (by omega)) kk)
      by_cases c20 : sw = 20
      · exact q_LtabIn (off := 863) (tgt := 896) eL_33 (by rw [c20]; decide) (by rw [c20]; decide) (by rw [c20]; rfl) (by decide) (law_20 l X Y b L k xs I u v h20 hI (hin 1 (by omega)) (hin 2 (by omega)) (hin 3 (by omega)) (hin 4 (by omega)) (hin 5 (by omega)) (hin 6 (by omega)) kk)
      by_cases c21 : sw = 21
      · exact q_LtabIn (off := 906) (tgt := 939) eL_33 (by rw [c21]; decide) (by rw [c21]; decide) (by rw [c21]; rfl) (by decide) (law_21 l X Y b L k xs I u v h21 hI (hin 1 (by omega)) (hin 2 (by omega)) (hin 3 (by omega)) (hin 4 (by omega)) (hin 5 (by omega)) (hin 6 (by omega)) kk)
      by_cases c22 : sw = 22
      · exact q_LtabIn (off := 929) (tgt := 962) eL_33 (by rw [c22]; decide) (by rw [c22]; decide) (by rw [c22]; rfl) (by decide) (law_22 l X Y b L k xs I u v h22 hI (hin 1 (by omega)) (hin 2 (by omega)) (hin 3 (by omega)) (hin 4 (by omega)) (hin 5 (by omega)) (hin 6 (by omega)) kk)
      by_cases c23 : sw = 23
      · exact q_LtabIn (off := 982) (tgt := 1015) eL_33 (by rw [c23]; decide) (by rw [c23]; decide) (by rw [c23]; rfl) (by decide) (law_23 l X Y b L k xs I u v h23 hI (hin 1 (by omega)) (hin 2 (by omega)) (hin 3 (by omega)) (hin 4 (by omega)) (hin 5 (by omega)) (hin 6 (by omega)) kk)
      by_cases c24 : sw = 24
      · exact q_LtabIn (off := 1025) (tgt := 1058) eL_33 (by rw [c24]; decide) (by rw [c24]; decide) (by rw [c24]; rfl) (by decide) (law_24 l X Y b L k xs I u v h24 hI (hin 1 (by omega)) (hin 2 (by omega)) (hin 3 (by omega)) (hin 4 (by omega)) (hin 5 (by omega)) (hin 6 (by omega)) kk)
      by_cases c25 : sw = 25
      · exact q_LtabIn (off := 1058) (tgt := 1091) eL_33 (by rw [c25]; decide) (by rw [c25]; decide) (by rw [c25]; rfl) (by decide) (law_25 l X Y b L k xs I u v h25 hI (hin 1 (by omega)) (hin 2 (by omega)) (hin 3 (by omega)) (hin 4 (by omega)) (hin 5 (by omega)) (hin 6 (by omega)) kk)
      by_cases c26 : sw = 26
      · exact q_LtabIn (off := 1091) (tgt := 1124) eL_33 (by rw [c26]; decide) (by rw [c26]; decide) (by rw [c26]; rfl) (by decide) (law_26 l X Y b L k xs I u v h26 hI (hin 1 (by omega)) (hin 2 (by omega)) (hin 3 (by omega)) (hin 4 (by omega)) (hin 5 (by omega)) (hin 6 (by omega)) kk)
      by_cases c27 : sw = 27
      · exact q_LtabIn (off := 1144) (tgt := 1177) eL_33 (by rw [c27]; decide) (by rw [c27]; decide) (by rw [c27]; rfl) (by decide) (law_27 l X Y b L k xs I u v h27 hI (hin 1 (by omega)) (hin 2 (by omega)) (hin 3 (by omega)) (hin 4 (by omega)) (hin 5 (by omega)) (hin 6 (by omega)) kk)
      by_cases c28 : sw = 28
      · exact q_LtabIn (off := 1187) (tgt := 1220) eL_33 (by rw [c28]; decide) (by rw [c28]; decide) (by rw [c28]; rfl) (by decide) (law_28 l X Y b L k xs I u v h28 hI (hin 1 (by omega)) (hin 2 (by omega)) (hin 3 (by omega)) (hin 4 (by omega)) (hin 5 (by omega)) (hin 6 (by omega)) kk)
      by_cases c29 : sw = 29
      · exact q_LtabIn (off := 1230) (tgt := 1263) eL_33 (by rw [c29]; decide) (by rw [c29]; decide) (by rw [c29]; rfl) (by decide) (law_29 l X Y b L k xs I u v h29 hI (hin 1 (by omega)) (hin 2 (by omega)) (hin 3 (by omega)) (hin 4 (by omega)) (hin 5 (by omega)) (hin 6 (by omega)) kk)
      by_cases c30 : sw = 30
      · exact q_LtabIn (off := 1263) (tgt := 1296) eL_33 (by rw [c30]; decide) (by rw [c30]; decide) (by rw [c30]; rfl) (by decide) (law_30 l X Y b L k xs I u v h30 hI (hin 1 (by omega)) (hin 2 (by omega)) (hin 3 (by omega)) (hin 4 (by omega)) (hin 5 (by omega)) (hin 6 (by omega)) kk)
      by_cases c31 : sw = 31
      · exact q_LtabIn (off := 1296) (tgt := 1329) eL_33 (by rw [c31]; decide) (by rw [c31]; decide) (by rw [c31]; rfl) (by decide) (law_31 l X Y b L k xs I u v h31 hI (hin 1 (by omega)) (hin 2 (by omega)) (hin 3 (by omega)) (hin 4 (by omega)) (hin 5 (by omega)) (hin 6 (by omega)) kk)
      by_cases c32 : sw = 32
      · exact q_LtabIn (off := 1339) (tgt := 1372) eL_33 (by rw [c32]; decide) (by rw [c32]; decide) (by rw [c32]; rfl) (by decide) (law_32 l X Y b L k xs I u v h32 hI (hin 1 (by omega)) (hin 2 (by omega)) (hin 3 (by omega)) (hin 4 (by omega)) (hin 5 (by omega)) (hin 6 (by omega)) kk)
      by_cases c33 : sw = 33
      · exact q_LtabIn (off := 1362) (tgt := 1395) eL_33 (by rw [c33]; decide) (by rw [c33]; decide) (by rw [c33]; rfl) (by decide) (law_33 l X Y b L k xs I u v h33 hI (hin 1 (by omega)) (hin 2 (by omega)) (hin 3 (by omega)) (hin 4 (by omega)) (hin 5 (by omega)) (hin 6 (by omega)) kk)
      exact q_LtabOut (tgt := 1418) eL_33 (by have z0 := lv_neT (a := 0) c0 rfl; have z1 := lv_neT (a := 1) c1 rfl; have z2 := lv_neT (a := 2) c2 rfl; have z3 := lv_neT (a := 3) c3 rfl; have z4 := lv_neT (a := 4) c4 rfl; have z5 := lv_neT (a := 5) c5 rfl; have z6 := lv_neT (a := 6) c6 rfl; have z7 := lv_neT (a := 7) c7 rfl; have z8 := lv_neT (a := 8) c8 rfl; have z9 := lv_neT (a := 9) c9 rfl; have z10 := lv_neT (a := 10) c10 rfl; have z11 := lv_neT (a := 11) c11 rfl; have z12 := lv_neT (a := 12) c12 rfl; have z13 := lv_neT (a := 13) c13 rfl; have z14 := lv_neT (a := 14) c14 rfl; have z15 := lv_neT (a := 15) c15 rfl; have z16 := lv_neT (a := 16) c16 rfl; have z17 := lv_neT (a := 17) c17 rfl; have z18 := lv_neT (a := 18) c18 rfl; have z19 := lv_neT (a := 19) c19 rfl; have z20 := lv_neT (a := 20) c20 rfl; have z21 := lv_neT (a := 21) c21 rfl; have z22 := lv_neT (a := 22) c22 rfl; have z23 := lv_neT (a := 23) c23 rfl; have z24 := lv_neT (a := 24) c24 rfl; have z25 := lv_neT (a := 25) c25 rfl; have z26 := lv_neT (a := 26) c26 rfl; have z27 := lv_neT (a := 27) c27 rfl; have z28 := lv_neT (a := 28) c28 rfl; have z29 := lv_neT (a := 29) c29 rfl; have z30 := lv_neT (a := 30) c30 rfl; have z31 := lv_neT (a := 31) c31 rfl; have z32 := lv_neT (a := 32) c32 rfl; have z33 := lv_neT (a := 33) c33 rfl; omega) (by decide) (kk u v hI)
