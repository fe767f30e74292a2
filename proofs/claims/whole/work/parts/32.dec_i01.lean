theorem d_M_init_186 : decode b_M_init 186 = .ok (.bipush 26, 2) := by decide +kernel
theorem d_M_init_188 : decode b_M_init 188 = .ok (.sipush 5633, 3) := by decide +kernel
theorem d_M_init_191 : decode b_M_init 191 = .ok (.iastore, 1) := by decide +kernel
theorem d_M_init_192 : decode b_M_init 192 = .ok (.dup, 1) := by decide +kernel
theorem d_M_init_193 : decode b_M_init 193 = .ok (.bipush 27, 2) := by decide +kernel
theorem d_M_init_195 : decode b_M_init 195 = .ok (.sipush 5121, 3) := by decide +kernel
theorem d_M_init_198 : decode b_M_init 198 = .ok (.iastore, 1) := by decide +kernel
theorem d_M_init_199 : decode b_M_init 199 = .ok (.dup, 1) := by decide +kernel
theorem d_M_init_200 : decode b_M_init 200 = .ok (.bipush 28, 2) := by decide +kernel
theorem d_M_init_202 : decode b_M_init 202 = .ok (.sipush 4609, 3) := by decide +kernel
theorem d_M_init_205 : decode b_M_init 205 = .ok (.iastore, 1) := by decide +kernel
theorem d_M_init_206 : decode b_M_init 206 = .ok (.dup, 1) := by decide +kernel
theorem d_M_init_207 : decode b_M_init 207 = .ok (.bipush 29, 2) := by decide +kernel
theorem d_M_init_209 : decode b_M_init 209 = .ok (.sipush 4353, 3) := by decide +kernel
theorem d_M_init_212 : decode b_M_init 212 = .ok (.iastore, 1) := by decide +kernel
theorem d_M_init_213 : decode b_M_init 213 = .ok (.dup, 1) := by decide +kernel
theorem d_M_init_214 : decode b_M_init 214 = .ok (.bipush 30, 2) := by decide +kernel
theorem d_M_init_216 : decode b_M_init 216 = .ok (.sipush 2753, 3) := by decide +kernel
theorem d_M_init_219 : decode b_M_init 219 = .ok (.iastore, 1) := by decide +kernel
theorem d_M_init_220 : decode b_M_init 220 = .ok (.dup, 1) := by decide +kernel
theorem d_M_init_221 : decode b_M_init 221 = .ok (.bipush 31, 2) := by decide +kernel
theorem d_M_init_223 : decode b_M_init 223 = .ok (.sipush 2497, 3) := by decide +kernel
theorem d_M_init_226 : decode b_M_init 226 = .ok (.iastore, 1) := by decide +kernel
theorem d_M_init_227 : decode b_M_init 227 = .ok (.dup, 1) := by decide +kernel
theorem d_M_init_228 : decode b_M_init 228 = .ok (.bipush 32, 2) := by decide +kernel
theorem d_M_init_230 : decode b_M_init 230 = .ok (.sipush 2209, 3) := by decide +kernel
theorem d_M_init_233 : decode b_M_init 233 = .ok (.iastore, 1) := by decide +kernel
theorem d_M_init_234 : decode b_M_init 234 = .ok (.dup, 1) := by decide +kernel
theorem d_M_init_235 : decode b_M_init 235 = .ok (.bipush 33, 2) := by decide +kernel
theorem d_M_init_237 : decode b_M_init 237 = .ok (.sipush 1313, 3) := by decide +kernel
theorem d_M_init_240 : decode b_M_init 240 = .ok (.iastore, 1) := by decide +kernel
theorem d_M_init_241 : decode b_M_init 241 = .ok (.dup, 1) := by decide +kernel
theorem d_M_init_242 : decode b_M_init 242 = .ok (.bipush 34, 2) := by decide +kernel
theorem d_M_init_244 : decode b_M_init 244 = .ok (.sipush 1089, 3) := by decide +kernel
theorem d_M_init_247 : decode b_M_init 247 = .ok (.iastore, 1) := by decide +kernel
theorem d_M_init_248 : decode b_M_init 248 = .ok (.dup, 1) := by decide +kernel
theorem d_M_init_249 : decode b_M_init 249 = .ok (.bipush 35, 2) := by decide +kernel
theorem d_M_init_251 : decode b_M_init 251 = .ok (.sipush 673, 3) := by decide +kernel
theorem d_M_init_254 : decode b_M_init 254 = .ok (.iastore, 1) := by decide +kernel
theorem d_M_init_255 : decode b_M_init 255 = .ok (.dup, 1) := by decide +kernel
theorem d_M_init_256 : decode b_M_init 256 = .ok (.bipush 36, 2) := by decide +kernel
theorem d_M_init_258 : decode b_M_init 258 = .ok (.sipush 545, 3) := by decide +kernel
theorem d_M_init_261 : decode b_M_init 261 = .ok (.iastore, 1) := by decide +kernel
theorem d_M_init_262 : decode b_M_init 262 = .ok (.dup, 1) := by decide +kernel
theorem d_M_init_263 : decode b_M_init 263 = .ok (.bipush 37, 2) := by decide +kernel
theorem d_M_init_265 : decode b_M_init 265 = .ok (.sipush 321, 3) := by decide +kernel
theorem d_M_init_268 : decode b_M_init 268 = .ok (.iastore, 1) := by decide +kernel
theorem d_M_init_269 : decode b_M_init 269 = .ok (.dup, 1) := by decide +kernel
theorem d_M_init_270 : decode b_M_init 270 = .ok (.bipush 38, 2) := by decide +kernel
theorem d_M_init_272 : decode b_M_init 272 = .ok (.sipush 273, 3) := by decide +kernel
theorem d_M_init_275 : decode b_M_init 275 = .ok (.iastore, 1) := by decide +kernel
theorem d_M_init_276 : decode b_M_init 276 = .ok (.dup, 1) := by decide +kernel
theorem d_M_init_277 : decode b_M_init 277 = .ok (.bipush 39, 2) := by decide +kernel
theorem d_M_init_279 : decode b_M_init 279 = .ok (.sipush 133, 3) := by decide +kernel
theorem d_M_init_282 : decode b_M_init 282 = .ok (.iastore, 1) := by decide +kernel
theorem d_M_init_283 : decode b_M_init 283 = .ok (.dup, 1) := by decide +kernel
theorem d_M_init_284 : decode b_M_init 284 = .ok (.bipush 40, 2) := by decide +kernel
theorem d_M_init_286 : decode b_M_init 286 = .ok (.bipush 73, 2) := by decide +kernel
theorem d_M_init_288 : decode b_M_init 288 = .ok (.iastore, 1) := by decide +kernel
theorem d_M_init_289 : decode b_M_init 289 = .ok (.dup, 1) := by decide +kernel
theorem d_M_init_290 : decode b_M_init 290 = .ok (.bipush 41, 2) := by decide +kernel
theorem d_M_init_292 : decode b_M_init 292 = .ok (.bipush 37, 2) := by decide +kernel
theorem d_M_init_294 : decode b_M_init 294 = .ok (.iastore, 1) := by decide +kernel
theorem d_M_init_295 : decode b_M_init 295 = .ok (.dup, 1) := by decide +kernel
theorem d_M_init_296 : decode b_M_init 296 = .ok (.bipush 42, 2) := by decide +kernel
theorem d_M_init_298 : decode b_M_init 298 = .ok (.bipush 21, 2) := by decide +kernel
theorem d_M_init_300 : decode b_M_init 300 = .ok (.iastore, 1) := by decide +kernel
theorem d_M_init_301 : decode b_M_init 301 = .ok (.dup, 1) := by decide +kernel
theorem d_M_init_302 : decode b_M_init 302 = .ok (.bipush 43, 2) := by decide +kernel
theorem d_M_init_304 : decode b_M_init 304 = .ok (.bipush 9, 2) := by decide +kernel
theorem d_M_init_306 : decode b_M_init 306 = .ok (.iastore, 1) := by decide +kernel
theorem d_M_init_307 : decode b_M_init 307 = .ok (.dup, 1) := by decide +kernel
theorem d_M_init_308 : decode b_M_init 308 = .ok (.bipush 44, 2) := by decide +kernel
theorem d_M_init_310 : decode b_M_init 310 = .ok (.iconst 5, 1) := by decide +kernel
theorem d_M_init_311 : decode b_M_init 311 = .ok (.iastore, 1) := by decide +kernel
theorem d_M_init_312 : decode b_M_init 312 = .ok (.dup, 1) := by decide +kernel
theorem d_M_init_313 : decode b_M_init 313 = .ok (.bipush 45, 2) := by decide +kernel
theorem d_M_init_315 : decode b_M_init 315 = .ok (.iconst 1, 1) := by decide +kernel
theorem d_M_init_316 : decode b_M_init 316 = .ok (.iastore, 1) := by decide +kernel
theorem d_M_init_317 : decode b_M_init 317 = .ok (.dup, 1) := by decide +kernel
theorem d_M_init_318 : decode b_M_init 318 = .ok (.bipush 46, 2) := by decide +kernel
theorem d_M_init_320 : decode b_M_init 320 = .ok (.sipush 22017, 3) := by decide +kernel
theorem d_M_init_323 : decode b_M_init 323 = .ok (.iastore, 1) := by decide +kernel
theorem d_M_init_324 : decode b_M_init 324 = .ok (.putfield 7, 3) := by decide +kernel
theorem d_M_init_327 : decode b_M_init 327 = .ok (.aload_n 0, 1) := by decide +kernel
theorem d_M_init_328 : decode b_M_init 328 = .ok (.bipush 47, 2) := by decide +kernel
theorem d_M_init_330 : decode b_M_init 330 = .ok (.newarray .int, 2) := by decide +kernel
theorem d_M_init_332 : decode b_M_init 332 = .ok (.dup, 1) := by decide +kernel
theorem d_M_init_333 : decode b_M_init 333 = .ok (.iconst 0, 1) := by decide +kernel
theorem d_M_init_334 : decode b_M_init 334 = .ok (.iconst 1, 1) := by decide +kernel
theorem d_M_init_335 : decode b_M_init 335 = .ok (.iastore, 1) := by decide +kernel
theorem d_M_init_336 : decode b_M_init 336 = .ok (.dup, 1) := by decide +kernel
theorem d_M_init_337 : decode b_M_init 337 = .ok (.iconst 1, 1) := by decide +kernel
theorem d_M_init_338 : decode b_M_init 338 = .ok (.iconst 2, 1) := by decide +kernel
theorem d_M_init_339 : decode b_M_init 339 = .ok (.iastore, 1) := by decide +kernel
theorem d_M_init_340 : decode b_M_init 340 = .ok (.dup, 1) := by decide +kernel
theorem d_M_init_341 : decode b_M_init 341 = .ok (.iconst 2, 1) := by decide +kernel
theorem d_M_init_342 : decode b_M_init 342 = .ok (.iconst 3, 1) := by decide +kernel
theorem d_M_init_343 : decode b_M_init 343 = .ok (.iastore, 1) := by decide +kernel
theorem d_M_init_344 : decode b_M_init 344 = .ok (.dup, 1) := by decide +kernel
theorem d_M_init_345 : decode b_M_init 345 = .ok (.iconst 3, 1) := by decide +kernel
theorem d_M_init_346 : decode b_M_init 346 = .ok (.iconst 4, 1) := by decide +kernel
theorem d_M_init_347 : decode b_M_init 347 = .ok (.iastore, 1) := by decide +kernel
theorem d_M_init_348 : decode b_M_init 348 = .ok (.dup, 1) := by decide +kernel
theorem d_M_init_349 : decode b_M_init 349 = .ok (.iconst 4, 1) := by decide +kernel
theorem d_M_init_350 : decode b_M_init 350 = .ok (.iconst 5, 1) := by decide +kernel
theorem d_M_init_351 : decode b_M_init 351 = .ok (.iastore, 1) := by decide +kernel
theorem d_M_init_352 : decode b_M_init 352 = .ok (.dup, 1) := by decide +kernel
theorem d_M_init_353 : decode b_M_init 353 = .ok (.iconst 5, 1) := by decide +kernel
theorem d_M_init_354 : decode b_M_init 354 = .ok (.bipush 38, 2) := by decide +kernel
