def hc_189 : SH := sm_new hc_188 10 0
def hc_190 : SH := sm_new hc_189 13 1600
def hc_191 : SH := (sm_I (sm_R hc_190 65 0 (some 66)) 65 8 (-1))
def hc_192 : SH := sm_new hc_191 13 6
def hc_193 : SH := (sm_R hc_192 65 9 (some 67))
def hc_194 : SH := sm_new hc_193 12 5
def hc_195 : SH := (sm_R (sm_I (sm_I (sm_I (sm_I (sm_I hc_194 68 0 (vp_nar .char 98)) 68 1 (vp_nar .char 111)) 68 2 (vp_nar .char 97)) 68 3 (vp_nar .char 114)) 68 4 (vp_nar .char 100)) 65 11 (some 68))
def hc_196 : SH := sm_new hc_195 12 2
def hc_197 : SH := (sm_R (sm_I (sm_I hc_196 69 0 (vp_nar .char 98)) 69 1 (vp_nar .char 121)) 65 12 (some 69))
def hc_198 : SH := sm_new hc_197 12 5
def hc_199 : SH := (sm_R (sm_I (sm_I (sm_I (sm_I (sm_I hc_198 70 0 (vp_nar .char 119)) 70 1 (vp_nar .char 104)) 70 2 (vp_nar .char 105)) 70 3 (vp_nar .char 116)) 70 4 (vp_nar .char 101)) 65 13 (some 70))
def hc_200 : SH := sm_new hc_199 12 5
def hc_201 : SH := (sm_R (sm_I (sm_I (sm_I (sm_I (sm_I hc_200 71 0 (vp_nar .char 98)) 71 1 (vp_nar .char 108)) 71 2 (vp_nar .char 97)) 71 3 (vp_nar .char 99)) 71 4 (vp_nar .char 107)) 65 14 (some 71))
def hc_202 : SH := sm_new hc_201 12 4
def hc_203 : SH := (sm_R (sm_I (sm_I (sm_I (sm_I hc_202 72 0 (vp_nar .char 107)) 72 1 (vp_nar .char 105)) 72 2 (vp_nar .char 110)) 72 3 (vp_nar .char 100)) 65 15 (some 72))
def hc_204 : SH := sm_new hc_203 12 4
def hc_205 : SH := (sm_R (sm_I (sm_I (sm_I (sm_I hc_204 73 0 (vp_nar .char 119)) 73 1 (vp_nar .char 97)) 73 2 (vp_nar .char 121)) 73 3 (vp_nar .char 115)) 65 16 (some 73))
def hc_206 : SH := sm_new hc_205 12 5
def hc_207 : SH := (sm_R (sm_I (sm_I (sm_I (sm_I (sm_I hc_206 74 0 (vp_nar .char 114)) 74 1 (vp_nar .char 101)) 74 2 (vp_nar .char 97)) 74 3 (vp_nar .char 99)) 74 4 (vp_nar .char 104)) 65 17 (some 74))
def hc_208 : SH := sm_new hc_207 12 5
def hc_209 : SH := (sm_R (sm_I (sm_I (sm_I (sm_I (sm_I hc_208 75 0 (vp_nar .char 119)) 75 1 (vp_nar .char 111)) 75 2 (vp_nar .char 114)) 75 3 (vp_nar .char 116)) 75 4 (vp_nar .char 104)) 65 18 (some 75))
def hc_210 : SH := sm_new hc_209 12 5
def hc_211 : SH := (sm_R (sm_I (sm_I (sm_I (sm_I (sm_I hc_210 76 0 (vp_nar .char 99)) 76 1 (vp_nar .char 114)) 76 2 (vp_nar .char 111)) 76 3 (vp_nar .char 119)) 76 4 (vp_nar .char 110)) 65 19 (some 76))
def hc_212 : SH := sm_new hc_211 12 3
def hc_213 : SH := (sm_R (sm_I (sm_I (sm_I hc_212 77 0 (vp_nar .char 109)) 77 1 (vp_nar .char 97)) 77 2 (vp_nar .char 110)) 65 20 (some 77))
def hc_214 : SH := sm_new hc_213 12 2
def hc_215 : SH := (sm_R (sm_I (sm_I hc_214 78 0 (vp_nar .char 105)) 78 1 (vp_nar .char 115)) 65 21 (some 78))
def hc_216 : SH := sm_new hc_215 12 2
def hc_217 : SH := (sm_R (sm_I (sm_I hc_216 79 0 (vp_nar .char 111)) 79 1 (vp_nar .char 102)) 65 22 (some 79))
def hc_218 : SH := sm_new hc_217 12 2
def hc_219 : SH := (sm_R (sm_I (sm_I hc_218 80 0 (vp_nar .char 97)) 80 1 (vp_nar .char 116)) 65 23 (some 80))
def hc_220 : SH := sm_new hc_219 12 5
def hc_221 : SH := (sm_R (sm_I (sm_I (sm_I (sm_I (sm_I hc_220 81 0 (vp_nar .char 102)) 81 1 (vp_nar .char 105)) 81 2 (vp_nar .char 101)) 81 3 (vp_nar .char 108)) 81 4 (vp_nar .char 100)) 65 24 (some 81))
def hc_222 : SH := sm_new hc_221 12 5
def hc_223 : SH := (sm_R (sm_I (sm_I (sm_I (sm_I (sm_I hc_222 82 0 (vp_nar .char 98)) 82 1 (vp_nar .char 101)) 82 2 (vp_nar .char 97)) 82 3 (vp_nar .char 114)) 82 4 (vp_nar .char 115)) 65 25 (some 82))
def hc_224 : SH := sm_new hc_223 12 4
def hc_225 : SH := (sm_R (sm_I (sm_I (sm_I (sm_I hc_224 83 0 (vp_nar .char 104)) 83 1 (vp_nar .char 97)) 83 2 (vp_nar .char 114)) 83 3 (vp_nar .char 109)) 65 26 (some 83))
def hc_226 : SH := sm_new hc_225 12 5
def hc_227 : SH := (sm_R (sm_I (sm_I (sm_I (sm_I (sm_I hc_226 84 0 (vp_nar .char 103)) 84 1 (vp_nar .char 114)) 84 2 (vp_nar .char 111)) 84 3 (vp_nar .char 119)) 84 4 (vp_nar .char 115)) 65 27 (some 84))
def hc_228 : SH := sm_new hc_227 12 6
def hc_229 : SH := (sm_R (sm_I (sm_I (sm_I (sm_I (sm_I (sm_I hc_228 85 0 (vp_nar .char 115)) 85 1 (vp_nar .char 108)) 85 2 (vp_nar .char 101)) 85 3 (vp_nar .char 101)) 85 4 (vp_nar .char 112)) 85 5 (vp_nar .char 121)) 65 28 (some 85))
def hc_230 : SH := sm_new hc_229 12 5
def hc_231 : SH := (sm_R (sm_I (sm_I (sm_I (sm_I (sm_I hc_230 86 0 (vp_nar .char 116)) 86 1 (vp_nar .char 97)) 86 2 (vp_nar .char 107)) 86 3 (vp_nar .char 101)) 86 4 (vp_nar .char 110)) 65 29 (some 86))
def hc_232 : SH := sm_new hc_231 12 5
def hc_233 : SH := (sm_R (sm_I (sm_I (sm_I (sm_I (sm_I hc_232 87 0 (vp_nar .char 99)) 87 1 (vp_nar .char 104)) 87 2 (vp_nar .char 101)) 87 3 (vp_nar .char 99)) 87 4 (vp_nar .char 107)) 65 30 (some 87))
def hc_234 : SH := sm_new hc_233 12 3
def hc_235 : SH := (sm_R (sm_I (sm_I (sm_I hc_234 88 0 (vp_nar .char 111)) 88 1 (vp_nar .char 102)) 88 2 (vp_nar .char 102)) 65 31 (some 88))
def hc_236 : SH := sm_new hc_235 12 3
def hc_237 : SH := (sm_R (sm_I (sm_I (sm_I hc_236 89 0 (vp_nar .char 100)) 89 1 (vp_nar .char 97)) 89 2 (vp_nar .char 121)) 65 32 (some 89))
def hc_238 : SH := sm_new hc_237 12 6
def hc_239 : SH := (sm_R (sm_I (sm_I (sm_I (sm_I (sm_I (sm_I hc_238 90 0 (vp_nar .char 110)) 90 1 (vp_nar .char 117)) 90 2 (vp_nar .char 109)) 90 3 (vp_nar .char 98)) 90 4 (vp_nar .char 101)) 90 5 (vp_nar .char 114)) 65 33 (some 90))
def hc_240 : SH := sm_new hc_239 12 6
def hc_241 : SH := (sm_R (sm_I (sm_I (sm_I (sm_I (sm_I (sm_I hc_240 91 0 (vp_nar .char 99)) 91 1 (vp_nar .char 111)) 91 2 (vp_nar .char 108)) 91 3 (vp_nar .char 117)) 91 4 (vp_nar .char 109)) 91 5 (vp_nar .char 110)) 65 34 (some 91))
def hc_242 : SH := sm_new hc_241 12 3
def hc_243 : SH := (sm_R (sm_I (sm_I (sm_I hc_242 92 0 (vp_nar .char 114)) 92 1 (vp_nar .char 111)) 92 2 (vp_nar .char 119)) 65 35 (some 92))
def hc_244 : SH := sm_new hc_243 12 4
def hc_245 : SH := (sm_R (sm_I (sm_I (sm_I (sm_I hc_244 93 0 (vp_nar .char 115)) 93 1 (vp_nar .char 105)) 93 2 (vp_nar .char 100)) 93 3 (vp_nar .char 101)) 65 36 (some 93))
def hc_246 : SH := sm_new hc_245 12 5
def hc_247 : SH := (sm_R (sm_I (sm_I (sm_I (sm_I (sm_I hc_246 94 0 (vp_nar .char 109)) 94 1 (vp_nar .char 111)) 94 2 (vp_nar .char 118)) 94 3 (vp_nar .char 101)) 94 4 (vp_nar .char 115)) 65 37 (some 94))
def hc_248 : SH := sm_new hc_247 12 2
def hc_249 : SH := (sm_R (sm_I (sm_I hc_248 95 0 (vp_nar .char 111)) 95 1 (vp_nar .char 114)) 65 38 (some 95))
def hc_250 : SH := sm_new hc_249 12 3
def hc_251 : SH := (sm_R (sm_I (sm_I (sm_I hc_250 96 0 (vp_nar .char 97)) 96 1 (vp_nar .char 110)) 96 2 (vp_nar .char 100)) 65 39 (some 96))
def hc_252 : SH := sm_new hc_251 12 3
def hc_253 : SH := (sm_R (sm_I (sm_I (sm_I hc_252 97 0 (vp_nar .char 110)) 97 1 (vp_nar .char 111)) 97 2 (vp_nar .char 116)) 65 40 (some 97))
def hc_254 : SH := sm_new hc_253 12 3
def hc_255 : SH := (sm_R (sm_I (sm_I (sm_I hc_254 98 0 (vp_nar .char 97)) 98 1 (vp_nar .char 108)) 98 2 (vp_nar .char 108)) 65 41 (some 98))
def hc_256 : SH := sm_new hc_255 12 3
def hc_257 : SH := (sm_R (sm_I (sm_I (sm_I hc_256 99 0 (vp_nar .char 109)) 99 1 (vp_nar .char 105)) 99 2 (vp_nar .char 110)) 65 42 (some 99))
def hc_258 : SH := sm_new hc_257 12 3
def hc_259 : SH := (sm_R (sm_I (sm_I (sm_I hc_258 100 0 (vp_nar .char 109)) 100 1 (vp_nar .char 97)) 100 2 (vp_nar .char 120)) 65 43 (some 100))
def hc_260 : SH := sm_new hc_259 13 6
def hc_261 : SH := (sm_R hc_260 65 45 (some 101))
def hc_262 : SH := sm_new hc_261 14 48
def hc_263 : SH := (sm_R hc_262 65 46 (some 102))
def hc_264 : SH := sm_new hc_263 13 8
def hc_265 : SH := (sm_R hc_264 65 47 (some 103))
def hc_266 : SH := sm_new hc_265 13 40
def hc_267 : SH := (sm_R hc_266 65 48 (some 104))
def hc_268 : SH := sm_new hc_267 13 32
def hc_269 : SH := (sm_R hc_268 65 49 (some 105))
def hc_270 : SH := sm_new hc_269 13 16
def hc_271 : SH := (sm_R hc_270 65 50 (some 106))
def hc_272 : SH := sm_new hc_271 13 36
def hc_273 : SH := (sm_R hc_272 65 51 (some 107))
def hc_274 : SH := sm_new hc_273 13 4
def hc_275 : SH := (sm_R hc_274 65 52 (some 108))
def hc_276 : SH := sm_new hc_275 13 2
def hc_277 : SH := (sm_R (sm_I (sm_I hc_276 109 0 (-1)) 109 1 (-1)) 65 53 (some 109))
def hc_278 : SH := sm_new hc_277 13 2
def hc_279 : SH := (sm_R hc_278 65 54 (some 110))
def hc_280 : SH := sm_new hc_279 13 3200
def hc_281 : SH := (sm_R hc_280 65 55 (some 111))
def hc_282 : SH := sm_new hc_281 13 225
def hc_283 : SH := (sm_R hc_282 65 62 (some 112))
def hc_284 : SH := sm_new hc_283 13 24
def hc_285 : SH := (sm_R hc_284 65 63 (some 113))
def hc_286 : SH := sm_new hc_285 13 5
def hc_287 : SH := (sm_R hc_286 65 64 (some 114))
def hc_288 : SH := sm_new hc_287 13 5
def hc_289 : SH := (sm_R hc_288 65 65 (some 115))
def hc_290 : SH := sm_new hc_289 13 5
def hc_291 : SH := (sm_R hc_290 65 66 (some 116))
def hc_292 : SH := sm_new hc_291 13 5
def hc_293 : SH := (sm_R hc_292 65 67 (some 117))
def hc_294 : SH := sm_new hc_293 13 8
def hc_295 : SH := (sm_R hc_294 65 74 (some 118))
def hc_296 : SH := sm_new hc_295 14 25
def hc_297 : SH := (sm_I (sm_R hc_296 65 76 (some 119)) 65 78 (-1))
def hc_298 : SH := sm_new hc_297 13 48
def hc_299 : SH := (sm_R hc_298 65 81 (some 120))
def hc_300 : SH := sm_new hc_299 13 16
def hc_301 : SH := (sm_R hc_300 65 82 (some 121))
def hc_302 : SH := sm_new hc_301 13 4500
def hc_303 : SH := (sm_J (sm_R hc_302 65 83 (some 122)) 65 86 1)
def hc_304 : SH := sm_new hc_303 12 5
def hc_305 : SH := (sm_R (sm_I (sm_I (sm_I (sm_I (sm_I hc_304 123 0 (vp_nar .char 102)) 123 1 (vp_nar .char 105)) 123 2 (vp_nar .char 114)) 123 3 (vp_nar .char 115)) 123 4 (vp_nar .char 116)) 65 87 (some 123))
def hc_306 : SH := sm_new hc_305 12 4
def hc_307 : SH := (sm_R (sm_I (sm_I (sm_I (sm_I hc_306 124 0 (vp_nar .char 108)) 124 1 (vp_nar .char 97)) 124 2 (vp_nar .char 115)) 124 3 (vp_nar .char 116)) 65 88 (some 124))
def hc_308 : SH := sm_new hc_307 12 5
def hc_309 : SH := (sm_R (sm_I (sm_I (sm_I (sm_I (sm_I hc_308 125 0 (vp_nar .char 111)) 125 1 (vp_nar .char 102)) 125 2 (vp_nar .char 116)) 125 3 (vp_nar .char 101)) 125 4 (vp_nar .char 110)) 65 89 (some 125))
def hc_310 : SH := sm_new hc_309 12 5
def hc_311 : SH := (sm_R (sm_I (sm_I (sm_I (sm_I (sm_I hc_310 126 0 (vp_nar .char 116)) 126 1 (vp_nar .char 111)) 126 2 (vp_nar .char 116)) 126 3 (vp_nar .char 97)) 126 4 (vp_nar .char 108)) 65 90 (some 126))
def hc_312 : SH := sm_new hc_311 12 4
def hc_313 : SH := (sm_R (sm_I (sm_I (sm_I (sm_I hc_312 127 0 (vp_nar .char 109)) 127 1 (vp_nar .char 111)) 127 2 (vp_nar .char 115)) 127 3 (vp_nar .char 116)) 65 91 (some 127))
def hc_314 : SH := sm_new hc_313 12 5
def hc_315 : SH := (sm_R (sm_I (sm_I (sm_I (sm_I (sm_I hc_314 128 0 (vp_nar .char 108)) 128 1 (vp_nar .char 101)) 128 2 (vp_nar .char 97)) 128 3 (vp_nar .char 115)) 128 4 (vp_nar .char 116)) 65 92 (some 128))
def hc_316 : SH := sm_new hc_315 12 3
def hc_317 : SH := (sm_R (sm_I (sm_I (sm_I hc_316 129 0 (vp_nar .char 110)) 129 1 (vp_nar .char 111)) 129 2 (vp_nar .char 116)) 65 93 (some 129))
def hc_318 : SH := sm_new hc_317 12 3
def hc_319 : SH := (sm_R (sm_I (sm_I (sm_I hc_318 130 0 (vp_nar .char 97)) 130 1 (vp_nar .char 110)) 130 2 (vp_nar .char 100)) 65 94 (some 130))
def hc_320 : SH := sm_new hc_319 12 2
def hc_321 : SH := (sm_R (sm_I (sm_I hc_320 131 0 (vp_nar .char 111)) 131 1 (vp_nar .char 114)) 65 95 (some 131))
def hc_322 : SH := sm_new hc_321 12 3
def hc_323 : SH := (sm_R (sm_I (sm_I (sm_I hc_322 132 0 (vp_nar .char 97)) 132 1 (vp_nar .char 108)) 132 2 (vp_nar .char 108)) 65 96 (some 132))
def hc_324 : SH := sm_new hc_323 12 3
def hc_325 : SH := (sm_R (sm_I (sm_I (sm_I hc_324 133 0 (vp_nar .char 109)) 133 1 (vp_nar .char 105)) 133 2 (vp_nar .char 110)) 65 97 (some 133))
def hc_326 : SH := sm_new hc_325 12 3
def hc_327 : SH := (sm_R (sm_I (sm_I (sm_I hc_326 134 0 (vp_nar .char 109)) 134 1 (vp_nar .char 97)) 134 2 (vp_nar .char 120)) 65 98 (some 134))
def hc_328 : SH := sm_new hc_327 12 5
def hc_329 : SH := (sm_R (sm_I (sm_I (sm_I (sm_I (sm_I hc_328 135 0 (vp_nar .char 116)) 135 1 (vp_nar .char 97)) 135 2 (vp_nar .char 107)) 135 3 (vp_nar .char 101)) 135 4 (vp_nar .char 110)) 65 99 (some 135))
def hc_330 : SH := sm_new hc_329 12 5
def hc_331 : SH := (sm_R (sm_I (sm_I (sm_I (sm_I (sm_I hc_330 136 0 (vp_nar .char 99)) 136 1 (vp_nar .char 104)) 136 2 (vp_nar .char 101)) 136 3 (vp_nar .char 99)) 136 4 (vp_nar .char 107)) 65 100 (some 136))
def hc_332 : SH := sm_new hc_331 12 3
def hc_333 : SH := (sm_R (sm_I (sm_I (sm_I hc_332 137 0 (vp_nar .char 111)) 137 1 (vp_nar .char 102)) 137 2 (vp_nar .char 102)) 65 101 (some 137))
def hc_334 : SH := sm_new hc_333 12 3
def hc_335 : SH := (sm_R (sm_I (sm_I (sm_I hc_334 138 0 (vp_nar .char 100)) 138 1 (vp_nar .char 97)) 138 2 (vp_nar .char 121)) 65 102 (some 138))
def hc_336 : SH := sm_new hc_335 12 6
def hc_337 : SH := (sm_R (sm_I (sm_I (sm_I (sm_I (sm_I (sm_I hc_336 139 0 (vp_nar .char 110)) 139 1 (vp_nar .char 117)) 139 2 (vp_nar .char 109)) 139 3 (vp_nar .char 98)) 139 4 (vp_nar .char 101)) 139 5 (vp_nar .char 114)) 65 103 (some 139))
def hc_338 : SH := sm_new hc_337 12 6
def hc_339 : SH := (sm_R (sm_I (sm_I (sm_I (sm_I (sm_I (sm_I hc_338 140 0 (vp_nar .char 99)) 140 1 (vp_nar .char 111)) 140 2 (vp_nar .char 108)) 140 3 (vp_nar .char 117)) 140 4 (vp_nar .char 109)) 140 5 (vp_nar .char 110)) 65 104 (some 140))
def hc_340 : SH := sm_new hc_339 12 3
def hc_341 : SH := (sm_R (sm_I (sm_I (sm_I hc_340 141 0 (vp_nar .char 114)) 141 1 (vp_nar .char 111)) 141 2 (vp_nar .char 119)) 65 105 (some 141))
def hc_342 : SH := sm_new hc_341 12 4
def hc_343 : SH := (sm_R (sm_I (sm_I (sm_I (sm_I hc_342 142 0 (vp_nar .char 115)) 142 1 (vp_nar .char 105)) 142 2 (vp_nar .char 100)) 142 3 (vp_nar .char 101)) 65 106 (some 142))
def hc_344 : SH := sm_new hc_343 12 5
def hc_345 : SH := (sm_R (sm_I (sm_I (sm_I (sm_I (sm_I hc_344 143 0 (vp_nar .char 119)) 143 1 (vp_nar .char 111)) 143 2 (vp_nar .char 114)) 143 3 (vp_nar .char 116)) 143 4 (vp_nar .char 104)) 65 107 (some 143))
def hc_346 : SH := sm_new hc_345 12 5
def hc_347 : SH := (sm_R (sm_I (sm_I (sm_I (sm_I (sm_I hc_346 144 0 (vp_nar .char 114)) 144 1 (vp_nar .char 101)) 144 2 (vp_nar .char 97)) 144 3 (vp_nar .char 99)) 144 4 (vp_nar .char 104)) 65 108 (some 144))
def hc_348 : SH := sm_new hc_347 12 5
def hc_349 : SH := (sm_R (sm_I (sm_I (sm_I (sm_I (sm_I hc_348 145 0 (vp_nar .char 109)) 145 1 (vp_nar .char 111)) 145 2 (vp_nar .char 118)) 145 3 (vp_nar .char 101)) 145 4 (vp_nar .char 115)) 65 109 (some 145))
def hc_350 : SH := sm_new hc_349 13 1700
def hc_351 : SH := (sm_R hc_350 65 110 (some 146))
def hc_352 : SH := sm_new hc_351 13 1700
def hc_353 : SH := (sm_R hc_352 65 112 (some 147))
def hc_354 : SH := sm_new hc_353 14 1700
def hc_355 : SH := (sm_R hc_354 65 116 (some 148))
def hc_356 : SH := sm_new hc_355 13 32
def hc_357 : SH := (sm_R hc_356 65 120 (some 149))
set_option maxHeartbeats 4000000 in
set_option maxRecDepth 40000 in
theorem tr_20_X10_init {l : Launch} {d : Nat} (hd : 1 ≤ d) : Cl l d mi_X10_init [.ref 65] hc_189 (none, hc_357) := by
  refine Ev.entry (by decide +kernel) rfl rfl ?_
  show Ev l d mi_X10_init 0 [some (.ref 65)] [] hc_189 0 0 _
  refine Ev.blk (pc' := 1) [(.aload_n 0, 0, 0, 0)] (by decide +kernel) trivial rfl (?_)
  show Ev l d mi_X10_init 1 [some (.ref 65)] [.ref 65] hc_189 0 0 _
  refine Ev.objInit ko_10_1 woi1 woi2 (Nat.le_of_ble_eq_true rfl) (by omega) (Nat.le_of_ble_eq_true rfl) (by decide +kernel) ?_
  show Ev l d mi_X10_init 4 [some (.ref 65)] [] hc_189 0 0 _
  refine Ev.blk (pc' := 8) [(.aload_n 0, 0, 0, 0), (.sipush 1600, 0, 0, 0)] (by decide +kernel) trivial rfl (?_)
  show Ev l d mi_X10_init 8 [some (.ref 65)] [.int 1600, .ref 65] hc_189 0 0 _
  refine Ev.newarray (at' := .int) (c := 13) (ty := .int) rfl (Or.inr (Or.inr ⟨rfl, rfl⟩)) war_int (by decide) (by decide) (Nat.le_of_ble_eq_true rfl) ⟨Nat.le_of_ble_eq_true rfl, Nat.le_of_ble_eq_true rfl⟩ (by decide +kernel) ?_
  show Ev l d mi_X10_init 10 [some (.ref 65)] [.ref 66, .ref 65] hc_190 1 1600 _
  refine Ev.blk (pc' := 21) [(.putfield 7, 0, 10, 0), (.aload_n 0, 0, 0, 0), (.iconst (-1), 0, 0, 0), (.putfield 13, 0, 10, 8), (.aload_n 0, 0, 0, 0), (.bipush 6, 0, 0, 0)] (by decide +kernel) ⟨⟨kf_10_7, Or.inr ⟨rfl, rfl, rfl⟩⟩, ⟨⟨kf_10_13, Or.inl rfl⟩, trivial⟩⟩ rfl (And.intro (kc rfl rfl) (And.intro (kc rfl rfl) (?_)))
  show Ev l d mi_X10_init 21 [some (.ref 65)] [.int 6, .ref 65] hc_191 1 1600 _
  refine Ev.newarray (at' := .int) (c := 13) (ty := .int) rfl (Or.inr (Or.inr ⟨rfl, rfl⟩)) war_int (by decide) (by decide) (Nat.le_of_ble_eq_true rfl) ⟨Nat.le_of_ble_eq_true rfl, Nat.le_of_ble_eq_true rfl⟩ (by decide +kernel) ?_
  show Ev l d mi_X10_init 23 [some (.ref 65)] [.ref 67, .ref 65] hc_192 2 1606 _
  refine Ev.blk (pc' := 28) [(.putfield 17, 0, 10, 9), (.aload_n 0, 0, 0, 0), (.iconst 5, 0, 0, 0)] (by decide +kernel) ⟨⟨kf_10_17, Or.inr ⟨rfl, rfl, rfl⟩⟩, trivial⟩ rfl (And.intro (kc rfl rfl) (?_))
  show Ev l d mi_X10_init 28 [some (.ref 65)] [.int 5, .ref 65] hc_193 2 1606 _
  refine Ev.newarray (at' := .char) (c := 12) (ty := .char) rfl (Or.inr (Or.inl ⟨rfl, rfl⟩)) war_char (by decide) (by decide) (Nat.le_of_ble_eq_true rfl) ⟨Nat.le_of_ble_eq_true rfl, Nat.le_of_ble_eq_true rfl⟩ (by decide +kernel) ?_
  show Ev l d mi_X10_init 30 [some (.ref 65)] [.ref 68, .ref 65] hc_194 3 1611 _
  refine Ev.blk (pc' := 60) [(.dup, 0, 0, 0), (.iconst 0, 0, 0, 0), (.bipush 98, 0, 0, 0), (.castore, 0, 0, 0), (.dup, 0, 0, 0), (.iconst 1, 0, 0, 0), (.bipush 111, 0, 0, 0), (.castore, 0, 0, 0), (.dup, 0, 0, 0), (.iconst 2, 0, 0, 0), (.bipush 97, 0, 0, 0), (.castore, 0, 0, 0), (.dup, 0, 0, 0), (.iconst 3, 0, 0, 0), (.bipush 114, 0, 0, 0), (.castore, 0, 0, 0), (.dup, 0, 0, 0), (.iconst 4, 0, 0, 0), (.bipush 100, 0, 0, 0), (.castore, 0, 0, 0), (.putfield 20, 0, 10, 11), (.aload_n 0, 0, 0, 0), (.iconst 2, 0, 0, 0)] (by decide +kernel) ⟨⟨kf_10_20, Or.inr ⟨rfl, rfl, rfl⟩⟩, trivial⟩ rfl (And.intro rfl (And.intro (kc rfl rfl) (And.intro (ib_ok rfl) (And.intro rfl (And.intro (kc rfl rfl) (And.intro (ib_ok rfl) (And.intro rfl (And.intro (kc rfl rfl) (And.intro (ib_ok rfl) (And.intro rfl (And.intro (kc rfl rfl) (And.intro (ib_ok rfl) (And.intro rfl (And.intro (kc rfl rfl) (And.intro (ib_ok rfl) (And.intro (kc rfl rfl) (?_)))))))))))))))))
  show Ev l d mi_X10_init 60 [some (.ref 65)] [.int 2, .ref 65] hc_195 3 1611 _
  refine Ev.newarray (at' := .char) (c := 12) (ty := .char) rfl (Or.inr (Or.inl ⟨rfl, rfl⟩)) war_char (by decide) (by decide) (Nat.le_of_ble_eq_true rfl) ⟨Nat.le_of_ble_eq_true rfl, Nat.le_of_ble_eq_true rfl⟩ (by decide +kernel) ?_
  show Ev l d mi_X10_init 62 [some (.ref 65)] [.ref 69, .ref 65] hc_196 4 1613 _
  refine Ev.blk (pc' := 77) [(.dup, 0, 0, 0), (.iconst 0, 0, 0, 0), (.bipush 98, 0, 0, 0), (.castore, 0, 0, 0), (.dup, 0, 0, 0), (.iconst 1, 0, 0, 0), (.bipush 121, 0, 0, 0), (.castore, 0, 0, 0), (.putfield 24, 0, 10, 12), (.aload_n 0, 0, 0, 0), (.iconst 5, 0, 0, 0)] (by decide +kernel) ⟨⟨kf_10_24, Or.inr ⟨rfl, rfl, rfl⟩⟩, trivial⟩ rfl (And.intro rfl (And.intro (kc rfl rfl) (And.intro (ib_ok rfl) (And.intro rfl (And.intro (kc rfl rfl) (And.intro (ib_ok rfl) (And.intro (kc rfl rfl) (?_))))))))
  show Ev l d mi_X10_init 77 [some (.ref 65)] [.int 5, .ref 65] hc_197 4 1613 _
  refine Ev.newarray (at' := .char) (c := 12) (ty := .char) rfl (Or.inr (Or.inl ⟨rfl, rfl⟩)) war_char (by decide) (by decide) (Nat.le_of_ble_eq_true rfl) ⟨Nat.le_of_ble_eq_true rfl, Nat.le_of_ble_eq_true rfl⟩ (by decide +kernel) ?_
  show Ev l d mi_X10_init 79 [some (.ref 65)] [.ref 70, .ref 65] hc_198 5 1618 _
  refine Ev.blk (pc' := 109) [(.dup, 0, 0, 0), (.iconst 0, 0, 0, 0), (.bipush 119, 0, 0, 0), (.castore, 0, 0, 0), (.dup, 0, 0, 0), (.iconst 1, 0, 0, 0), (.bipush 104, 0, 0, 0), (.castore, 0, 0, 0), (.dup, 0, 0, 0), (.iconst 2, 0, 0, 0), (.bipush 105, 0, 0, 0), (.castore, 0, 0, 0), (.dup, 0, 0, 0), (.iconst 3, 0, 0, 0), (.bipush 116, 0, 0, 0), (.castore, 0, 0, 0), (.dup, 0, 0, 0), (.iconst 4, 0, 0, 0), (.bipush 101, 0, 0, 0), (.castore, 0, 0, 0), (.putfield 27, 0, 10, 13), (.aload_n 0, 0, 0, 0), (.iconst 5, 0, 0, 0)] (by decide +kernel) ⟨⟨kf_10_27, Or.inr ⟨rfl, rfl, rfl⟩⟩, trivial⟩ rfl (And.intro rfl (And.intro (kc rfl rfl) (And.intro (ib_ok rfl) (And.intro rfl (And.intro (kc rfl rfl) (And.intro (ib_ok rfl) (And.intro rfl (And.intro (kc rfl rfl) (And.intro (ib_ok rfl) (And.intro rfl (And.intro (kc rfl rfl) (And.intro (ib_ok rfl) (And.intro rfl (And.intro (kc rfl rfl) (And.intro (ib_ok rfl) (And.intro (kc rfl rfl) (?_)))))))))))))))))
  show Ev l d mi_X10_init 109 [some (.ref 65)] [.int 5, .ref 65] hc_199 5 1618 _
  refine Ev.newarray (at' := .char) (c := 12) (ty := .char) rfl (Or.inr (Or.inl ⟨rfl, rfl⟩)) war_char (by decide) (by decide) (Nat.le_of_ble_eq_true rfl) ⟨Nat.le_of_ble_eq_true rfl, Nat.le_of_ble_eq_true rfl⟩ (by decide +kernel) ?_
  show Ev l d mi_X10_init 111 [some (.ref 65)] [.ref 71, .ref 65] hc_200 6 1623 _
  refine Ev.blk (pc' := 141) [(.dup, 0, 0, 0), (.iconst 0, 0, 0, 0), (.bipush 98, 0, 0, 0), (.castore, 0, 0, 0), (.dup, 0, 0, 0), (.iconst 1, 0, 0, 0), (.bipush 108, 0, 0, 0), (.castore, 0, 0, 0), (.dup, 0, 0, 0), (.iconst 2, 0, 0, 0), (.bipush 97, 0, 0, 0), (.castore, 0, 0, 0), (.dup, 0, 0, 0), (.iconst 3, 0, 0, 0), (.bipush 99, 0, 0, 0), (.castore, 0, 0, 0), (.dup, 0, 0, 0), (.iconst 4, 0, 0, 0), (.bipush 107, 0, 0, 0), (.castore, 0, 0, 0), (.putfield 30, 0, 10, 14), (.aload_n 0, 0, 0, 0), (.iconst 4, 0, 0, 0)] (by decide +kernel) ⟨⟨kf_10_30, Or.inr ⟨rfl, rfl, rfl⟩⟩, trivial⟩ rfl (And.intro rfl (And.intro (kc rfl rfl) (And.intro (ib_ok rfl) (And.intro rfl (And.intro (kc rfl rfl) (And.intro (ib_ok rfl) (And.intro rfl (And.intro (kc rfl rfl) (And.intro (ib_ok rfl) (And.intro rfl (And.intro (kc rfl rfl) (And.intro (ib_ok rfl) (And.intro rfl (And.intro (kc rfl rfl) (And.intro (ib_ok rfl) (And.intro (kc rfl rfl) (?_)))))))))))))))))
  show Ev l d mi_X10_init 141 [some (.ref 65)] [.int 4, .ref 65] hc_201 6 1623 _
  refine Ev.newarray (at' := .char) (c := 12) (ty := .char) rfl (Or.inr (Or.inl ⟨rfl, rfl⟩)) war_char (by decide) (by decide) (Nat.le_of_ble_eq_true rfl) ⟨Nat.le_of_ble_eq_true rfl, Nat.le_of_ble_eq_true rfl⟩ (by decide +kernel) ?_
  show Ev l d mi_X10_init 143 [some (.ref 65)] [.ref 72, .ref 65] hc_202 7 1627 _
  refine Ev.blk (pc' := 168) [(.dup, 0, 0, 0), (.iconst 0, 0, 0, 0), (.bipush 107, 0, 0, 0), (.castore, 0, 0, 0), (.dup, 0, 0, 0), (.iconst 1, 0, 0, 0), (.bipush 105, 0, 0, 0), (.castore, 0, 0, 0), (.dup, 0, 0, 0), (.iconst 2, 0, 0, 0), (.bipush 110, 0, 0, 0), (.castore, 0, 0, 0), (.dup, 0, 0, 0), (.iconst 3, 0, 0, 0), (.bipush 100, 0, 0, 0), (.castore, 0, 0, 0), (.putfield 33, 0, 10, 15), (.aload_n 0, 0, 0, 0), (.iconst 4, 0, 0, 0)] (by decide +kernel) ⟨⟨kf_10_33, Or.inr ⟨rfl, rfl, rfl⟩⟩, trivial⟩ rfl (And.intro rfl (And.intro (kc rfl rfl) (And.intro (ib_ok rfl) (And.intro rfl (And.intro (kc rfl rfl) (And.intro (ib_ok rfl) (And.intro rfl (And.intro (kc rfl rfl) (And.intro (ib_ok rfl) (And.intro rfl (And.intro (kc rfl rfl) (And.intro (ib_ok rfl) (And.intro (kc rfl rfl) (?_))))))))))))))
  show Ev l d mi_X10_init 168 [some (.ref 65)] [.int 4, .ref 65] hc_203 7 1627 _
  refine Ev.newarray (at' := .char) (c := 12) (ty := .char) rfl (Or.inr (Or.inl ⟨rfl, rfl⟩)) war_char (by decide) (by decide) (Nat.le_of_ble_eq_true rfl) ⟨Nat.le_of_ble_eq_true rfl, Nat.le_of_ble_eq_true rfl⟩ (by decide +kernel) ?_
  show Ev l d mi_X10_init 170 [some (.ref 65)] [.ref 73, .ref 65] hc_204 8 1631 _
  refine Ev.blk (pc' := 195) [(.dup, 0, 0, 0), (.iconst 0, 0, 0, 0), (.bipush 119, 0, 0, 0), (.castore, 0, 0, 0), (.dup, 0, 0, 0), (.iconst 1, 0, 0, 0), (.bipush 97, 0, 0, 0), (.castore, 0, 0, 0), (.dup, 0, 0, 0), (.iconst 2, 0, 0, 0), (.bipush 121, 0, 0, 0), (.castore, 0, 0, 0), (.dup, 0, 0, 0), (.iconst 3, 0, 0, 0), (.bipush 115, 0, 0, 0), (.castore, 0, 0, 0), (.putfield 36, 0, 10, 16), (.aload_n 0, 0, 0, 0), (.iconst 5, 0, 0, 0)] (by decide +kernel) ⟨⟨kf_10_36, Or.inr ⟨rfl, rfl, rfl⟩⟩, trivial⟩ rfl (And.intro rfl (And.intro (kc rfl rfl) (And.intro (ib_ok rfl) (And.intro rfl (And.intro (kc rfl rfl) (And.intro (ib_ok rfl) (And.intro rfl (And.intro (kc rfl rfl) (And.intro (ib_ok rfl) (And.intro rfl (And.intro (kc rfl rfl) (And.intro (ib_ok rfl) (And.intro (kc rfl rfl) (?_))))))))))))))
  show Ev l d mi_X10_init 195 [some (.ref 65)] [.int 5, .ref 65] hc_205 8 1631 _
  refine Ev.newarray (at' := .char) (c := 12) (ty := .char) rfl (Or.inr (Or.inl ⟨rfl, rfl⟩)) war_char (by decide) (by decide) (Nat.le_of_ble_eq_true rfl) ⟨Nat.le_of_ble_eq_true rfl, Nat.le_of_ble_eq_true rfl⟩ (by decide +kernel) ?_
  show Ev l d mi_X10_init 197 [some (.ref 65)] [.ref 74, .ref 65] hc_206 9 1636 _
  refine Ev.blk (pc' := 227) [(.dup, 0, 0, 0), (.iconst 0, 0, 0, 0), (.bipush 114, 0, 0, 0), (.castore, 0, 0, 0), (.dup, 0, 0, 0), (.iconst 1, 0, 0, 0), (.bipush 101, 0, 0, 0), (.castore, 0, 0, 0), (.dup, 0, 0, 0), (.iconst 2, 0, 0, 0), (.bipush 97, 0, 0, 0), (.castore, 0, 0, 0), (.dup, 0, 0, 0), (.iconst 3, 0, 0, 0), (.bipush 99, 0, 0, 0), (.castore, 0, 0, 0), (.dup, 0, 0, 0), (.iconst 4, 0, 0, 0), (.bipush 104, 0, 0, 0), (.castore, 0, 0, 0), (.putfield 39, 0, 10, 17), (.aload_n 0, 0, 0, 0), (.iconst 5, 0, 0, 0)] (by decide +kernel) ⟨⟨kf_10_39, Or.inr ⟨rfl, rfl, rfl⟩⟩, trivial⟩ rfl (And.intro rfl (And.intro (kc rfl rfl) (And.intro (ib_ok rfl) (And.intro rfl (And.intro (kc rfl rfl) (And.intro (ib_ok rfl) (And.intro rfl (And.intro (kc rfl rfl) (And.intro (ib_ok rfl) (And.intro rfl (And.intro (kc rfl rfl) (And.intro (ib_ok rfl) (And.intro rfl (And.intro (kc rfl rfl) (And.intro (ib_ok rfl) (And.intro (kc rfl rfl) (?_)))))))))))))))))
  show Ev l d mi_X10_init 227 [some (.ref 65)] [.int 5, .ref 65] hc_207 9 1636 _
  refine Ev.newarray (at' := .char) (c := 12) (ty := .char) rfl (Or.inr (Or.inl ⟨rfl, rfl⟩)) war_char (by decide) (by decide) (Nat.le_of_ble_eq_true rfl) ⟨Nat.le_of_ble_eq_true rfl, Nat.le_of_ble_eq_true rfl⟩ (by decide +kernel) ?_
  show Ev l d mi_X10_init 229 [some (.ref 65)] [.ref 75, .ref 65] hc_208 10 1641 _
  refine Ev.blk (pc' := 259) [(.dup, 0, 0, 0), (.iconst 0, 0, 0, 0), (.bipush 119, 0, 0, 0), (.castore, 0, 0, 0), (.dup, 0, 0, 0), (.iconst 1, 0, 0, 0), (.bipush 111, 0, 0, 0), (.castore, 0, 0, 0), (.dup, 0, 0, 0), (.iconst 2, 0, 0, 0), (.bipush 114, 0, 0, 0), (.castore, 0, 0, 0), (.dup, 0, 0, 0), (.iconst 3, 0, 0, 0), (.bipush 116, 0, 0, 0), (.castore, 0, 0, 0), (.dup, 0, 0, 0), (.iconst 4, 0, 0, 0), (.bipush 104, 0, 0, 0), (.castore, 0, 0, 0), (.putfield 42, 0, 10, 18), (.aload_n 0, 0, 0, 0), (.iconst 5, 0, 0, 0)] (by decide +kernel) ⟨⟨kf_10_42, Or.inr ⟨rfl, rfl, rfl⟩⟩, trivial⟩ rfl (And.intro rfl (And.intro (kc rfl rfl) (And.intro (ib_ok rfl) (And.intro rfl (And.intro (kc rfl rfl) (And.intro (ib_ok rfl) (And.intro rfl (And.intro (kc rfl rfl) (And.intro (ib_ok rfl) (And.intro rfl (And.intro (kc rfl rfl) (And.intro (ib_ok rfl) (And.intro rfl (And.intro (kc rfl rfl) (And.intro (ib_ok rfl) (And.intro (kc rfl rfl) (?_)))))))))))))))))
  show Ev l d mi_X10_init 259 [some (.ref 65)] [.int 5, .ref 65] hc_209 10 1641 _
  refine Ev.newarray (at' := .char) (c := 12) (ty := .char) rfl (Or.inr (Or.inl ⟨rfl, rfl⟩)) war_char (by decide) (by decide) (Nat.le_of_ble_eq_true rfl) ⟨Nat.le_of_ble_eq_true rfl, Nat.le_of_ble_eq_true rfl⟩ (by decide +kernel) ?_
  show Ev l d mi_X10_init 261 [some (.ref 65)] [.ref 76, .ref 65] hc_210 11 1646 _
  refine Ev.blk (pc' := 291) [(.dup, 0, 0, 0), (.iconst 0, 0, 0, 0), (.bipush 99, 0, 0, 0), (.castore, 0, 0, 0), (.dup, 0, 0, 0), (.iconst 1, 0, 0, 0), (.bipush 114, 0, 0, 0), (.castore, 0, 0, 0), (.dup, 0, 0, 0), (.iconst 2, 0, 0, 0), (.bipush 111, 0, 0, 0), (.castore, 0, 0, 0), (.dup, 0, 0, 0), (.iconst 3, 0, 0, 0), (.bipush 119, 0, 0, 0), (.castore, 0, 0, 0), (.dup, 0, 0, 0), (.iconst 4, 0, 0, 0), (.bipush 110, 0, 0, 0), (.castore, 0, 0, 0), (.putfield 45, 0, 10, 19), (.aload_n 0, 0, 0, 0), (.iconst 3, 0, 0, 0)] (by decide +kernel) ⟨⟨kf_10_45, Or.inr ⟨rfl, rfl, rfl⟩⟩, trivial⟩ rfl (And.intro rfl (And.intro (kc rfl rfl) (And.intro (ib_ok rfl) (And.intro rfl (And.intro (kc rfl rfl) (And.intro (ib_ok rfl) (And.intro rfl (And.intro (kc rfl rfl) (And.intro (ib_ok rfl) (And.intro rfl (And.intro (kc rfl rfl) (And.intro (ib_ok rfl) (And.intro rfl (And.intro (kc rfl rfl) (And.intro (ib_ok rfl) (And.intro (kc rfl rfl) (?_)))))))))))))))))
  show Ev l d mi_X10_init 291 [some (.ref 65)] [.int 3, .ref 65] hc_211 11 1646 _
  refine Ev.newarray (at' := .char) (c := 12) (ty := .char) rfl (Or.inr (Or.inl ⟨rfl, rfl⟩)) war_char (by decide) (by decide) (Nat.le_of_ble_eq_true rfl) ⟨Nat.le_of_ble_eq_true rfl, Nat.le_of_ble_eq_true rfl⟩ (by decide +kernel) ?_
  show Ev l d mi_X10_init 293 [some (.ref 65)] [.ref 77, .ref 65] hc_212 12 1649 _
  refine Ev.blk (pc' := 313) [(.dup, 0, 0, 0), (.iconst 0, 0, 0, 0), (.bipush 109, 0, 0, 0), (.castore, 0, 0, 0), (.dup, 0, 0, 0), (.iconst 1, 0, 0, 0), (.bipush 97, 0, 0, 0), (.castore, 0, 0, 0), (.dup, 0, 0, 0), (.iconst 2, 0, 0, 0), (.bipush 110, 0, 0, 0), (.castore, 0, 0, 0), (.putfield 48, 0, 10, 20), (.aload_n 0, 0, 0, 0), (.iconst 2, 0, 0, 0)] (by decide +kernel) ⟨⟨kf_10_48, Or.inr ⟨rfl, rfl, rfl⟩⟩, trivial⟩ rfl (And.intro rfl (And.intro (kc rfl rfl) (And.intro (ib_ok rfl) (And.intro rfl (And.intro (kc rfl rfl) (And.intro (ib_ok rfl) (And.intro rfl (And.intro (kc rfl rfl) (And.intro (ib_ok rfl) (And.intro (kc rfl rfl) (?_)))))))))))
  show Ev l d mi_X10_init 313 [some (.ref 65)] [.int 2, .ref 65] hc_213 12 1649 _
  refine Ev.newarray (at' := .char) (c := 12) (ty := .char) rfl (Or.inr (Or.inl ⟨rfl, rfl⟩)) war_char (by decide) (by decide) (Nat.le_of_ble_eq_true rfl) ⟨Nat.le_of_ble_eq_true rfl, Nat.le_of_ble_eq_true rfl⟩ (by decide +kernel) ?_
  show Ev l d mi_X10_init 315 [some (.ref 65)] [.ref 78, .ref 65] hc_214 13 1651 _
  refine Ev.blk (pc' := 330) [(.dup, 0, 0, 0), (.iconst 0, 0, 0, 0), (.bipush 105, 0, 0, 0), (.castore, 0, 0, 0), (.dup, 0, 0, 0), (.iconst 1, 0, 0, 0), (.bipush 115, 0, 0, 0), (.castore, 0, 0, 0), (.putfield 51, 0, 10, 21), (.aload_n 0, 0, 0, 0), (.iconst 2, 0, 0, 0)] (by decide +kernel) ⟨⟨kf_10_51, Or.inr ⟨rfl, rfl, rfl⟩⟩, trivial⟩ rfl (And.intro rfl (And.intro (kc rfl rfl) (And.intro (ib_ok rfl) (And.intro rfl (And.intro (kc rfl rfl) (And.intro (ib_ok rfl) (And.intro (kc rfl rfl) (?_))))))))
  show Ev l d mi_X10_init 330 [some (.ref 65)] [.int 2, .ref 65] hc_215 13 1651 _
  refine Ev.newarray (at' := .char) (c := 12) (ty := .char) rfl (Or.inr (Or.inl ⟨rfl, rfl⟩)) war_char (by decide) (by decide) (Nat.le_of_ble_eq_true rfl) ⟨Nat.le_of_ble_eq_true rfl, Nat.le_of_ble_eq_true rfl⟩ (by decide +kernel) ?_
  show Ev l d mi_X10_init 332 [some (.ref 65)] [.ref 79, .ref 65] hc_216 14 1653 _
  refine Ev.blk (pc' := 347) [(.dup, 0, 0, 0), (.iconst 0, 0, 0, 0), (.bipush 111, 0, 0, 0), (.castore, 0, 0, 0), (.dup, 0, 0, 0), (.iconst 1, 0, 0, 0), (.bipush 102, 0, 0, 0), (.castore, 0, 0, 0), (.putfield 54, 0, 10, 22), (.aload_n 0, 0, 0, 0), (.iconst 2, 0, 0, 0)] (by decide +kernel) ⟨⟨kf_10_54, Or.inr ⟨rfl, rfl, rfl⟩⟩, trivial⟩ rfl (And.intro rfl (And.intro (kc rfl rfl) (And.intro (ib_ok rfl) (And.intro rfl (And.intro (kc rfl rfl) (And.intro (ib_ok rfl) (And.intro (kc rfl rfl) (?_))))))))
  show Ev l d mi_X10_init 347 [some (.ref 65)] [.int 2, .ref 65] hc_217 14 1653 _
  refine Ev.newarray (at' := .char) (c := 12) (ty := .char) rfl (Or.inr (Or.inl ⟨rfl, rfl⟩)) war_char (by decide) (by decide) (Nat.le_of_ble_eq_true rfl) ⟨Nat.le_of_ble_eq_true rfl, Nat.le_of_ble_eq_true rfl⟩ (by decide +kernel) ?_
  show Ev l d mi_X10_init 349 [some (.ref 65)] [.ref 80, .ref 65] hc_218 15 1655 _
  refine Ev.blk (pc' := 364) [(.dup, 0, 0, 0), (.iconst 0, 0, 0, 0), (.bipush 97, 0, 0, 0), (.castore, 0, 0, 0), (.dup, 0, 0, 0), (.iconst 1, 0, 0, 0), (.bipush 116, 0, 0, 0), (.castore, 0, 0, 0), (.putfield 57, 0, 10, 23), (.aload_n 0, 0, 0, 0), (.iconst 5, 0, 0, 0)] (by decide +kernel) ⟨⟨kf_10_57, Or.inr ⟨rfl, rfl, rfl⟩⟩, trivial⟩ rfl (And.intro rfl (And.intro (kc rfl rfl) (And.intro (ib_ok rfl) (And.intro rfl (And.intro (kc rfl rfl) (And.intro (ib_ok rfl) (And.intro (kc rfl rfl) (?_))))))))
  show Ev l d mi_X10_init 364 [some (.ref 65)] [.int 5, .ref 65] hc_219 15 1655 _
  refine Ev.newarray (at' := .char) (c := 12) (ty := .char) rfl (Or.inr (Or.inl ⟨rfl, rfl⟩)) war_char (by decide) (by decide) (Nat.le_of_ble_eq_true rfl) ⟨Nat.le_of_ble_eq_true rfl, Nat.le_of_ble_eq_true rfl⟩ (by decide +kernel) ?_
  show Ev l d mi_X10_init 366 [some (.ref 65)] [.ref 81, .ref 65] hc_220 16 1660 _
  refine Ev.blk (pc' := 396) [(.dup, 0, 0, 0), (.iconst 0, 0, 0, 0), (.bipush 102, 0, 0, 0), (.castore, 0, 0, 0), (.dup, 0, 0, 0), (.iconst 1, 0, 0, 0), (.bipush 105, 0, 0, 0), (.castore, 0, 0, 0), (.dup, 0, 0, 0), (.iconst 2, 0, 0, 0), (.bipush 101, 0, 0, 0), (.castore, 0, 0, 0), (.dup, 0, 0, 0), (.iconst 3, 0, 0, 0), (.bipush 108, 0, 0, 0), (.castore, 0, 0, 0), (.dup, 0, 0, 0), (.iconst 4, 0, 0, 0), (.bipush 100, 0, 0, 0), (.castore, 0, 0, 0), (.putfield 60, 0, 10, 24), (.aload_n 0, 0, 0, 0), (.iconst 5, 0, 0, 0)] (by decide +kernel) ⟨⟨kf_10_60, Or.inr ⟨rfl, rfl, rfl⟩⟩, trivial⟩ rfl (And.intro rfl (And.intro (kc rfl rfl) (And.intro (ib_ok rfl) (And.intro rfl (And.intro (kc rfl rfl) (And.intro (ib_ok rfl) (And.intro rfl (And.intro (kc rfl rfl) (And.intro (ib_ok rfl) (And.intro rfl (And.intro (kc rfl rfl) (And.intro (ib_ok rfl) (And.intro rfl (And.intro (kc rfl rfl) (And.intro (ib_ok rfl) (And.intro (kc rfl rfl) (?_)))))))))))))))))
  show Ev l d mi_X10_init 396 [some (.ref 65)] [.int 5, .ref 65] hc_221 16 1660 _
  refine Ev.newarray (at' := .char) (c := 12) (ty := .char) rfl (Or.inr (Or.inl ⟨rfl, rfl⟩)) war_char (by decide) (by decide) (Nat.le_of_ble_eq_true rfl) ⟨Nat.le_of_ble_eq_true rfl, Nat.le_of_ble_eq_true rfl⟩ (by decide +kernel) ?_
  show Ev l d mi_X10_init 398 [some (.ref 65)] [.ref 82, .ref 65] hc_222 17 1665 _
  refine Ev.blk (pc' := 428) [(.dup, 0, 0, 0), (.iconst 0, 0, 0, 0), (.bipush 98, 0, 0, 0), (.castore, 0, 0, 0), (.dup, 0, 0, 0), (.iconst 1, 0, 0, 0), (.bipush 101, 0, 0, 0), (.castore, 0, 0, 0), (.dup, 0, 0, 0), (.iconst 2, 0, 0, 0), (.bipush 97, 0, 0, 0), (.castore, 0, 0, 0), (.dup, 0, 0, 0), (.iconst 3, 0, 0, 0), (.bipush 114, 0, 0, 0), (.castore, 0, 0, 0), (.dup, 0, 0, 0), (.iconst 4, 0, 0, 0), (.bipush 115, 0, 0, 0), (.castore, 0, 0, 0), (.putfield 63, 0, 10, 25), (.aload_n 0, 0, 0, 0), (.iconst 4, 0, 0, 0)] (by decide +kernel) ⟨⟨kf_10_63, Or.inr ⟨rfl, rfl, rfl⟩⟩, trivial⟩ rfl (And.intro rfl (And.intro (kc rfl rfl) (And.intro (ib_ok rfl) (And.intro rfl (And.intro (kc rfl rfl) (And.intro (ib_ok rfl) (And.intro rfl (And.intro (kc rfl rfl) (And.intro (ib_ok rfl) (And.intro rfl (And.intro (kc rfl rfl) (And.intro (ib_ok rfl) (And.intro rfl (And.intro (kc rfl rfl) (And.intro (ib_ok rfl) (And.intro (kc rfl rfl) (?_)))))))))))))))))
  show Ev l d mi_X10_init 428 [some (.ref 65)] [.int 4, .ref 65] hc_223 17 1665 _
  refine Ev.newarray (at' := .char) (c := 12) (ty := .char) rfl (Or.inr (Or.inl ⟨rfl, rfl⟩)) war_char (by decide) (by decide) (Nat.le_of_ble_eq_true rfl) ⟨Nat.le_of_ble_eq_true rfl, Nat.le_of_ble_eq_true rfl⟩ (by decide +kernel) ?_
  show Ev l d mi_X10_init 430 [some (.ref 65)] [.ref 83, .ref 65] hc_224 18 1669 _
  refine Ev.blk (pc' := 455) [(.dup, 0, 0, 0), (.iconst 0, 0, 0, 0), (.bipush 104, 0, 0, 0), (.castore, 0, 0, 0), (.dup, 0, 0, 0), (.iconst 1, 0, 0, 0), (.bipush 97, 0, 0, 0), (.castore, 0, 0, 0), (.dup, 0, 0, 0), (.iconst 2, 0, 0, 0), (.bipush 114, 0, 0, 0), (.castore, 0, 0, 0), (.dup, 0, 0, 0), (.iconst 3, 0, 0, 0), (.bipush 109, 0, 0, 0), (.castore, 0, 0, 0), (.putfield 66, 0, 10, 26), (.aload_n 0, 0, 0, 0), (.iconst 5, 0, 0, 0)] (by decide +kernel) ⟨⟨kf_10_66, Or.inr ⟨rfl, rfl, rfl⟩⟩, trivial⟩ rfl (And.intro rfl (And.intro (kc rfl rfl) (And.intro (ib_ok rfl) (And.intro rfl (And.intro (kc rfl rfl) (And.intro (ib_ok rfl) (And.intro rfl (And.intro (kc rfl rfl) (And.intro (ib_ok rfl) (And.intro rfl (And.intro (kc rfl rfl) (And.intro (ib_ok rfl) (And.intro (kc rfl rfl) (?_))))))))))))))
  show Ev l d mi_X10_init 455 [some (.ref 65)] [.int 5, .ref 65] hc_225 18 1669 _
  refine Ev.newarray (at' := .char) (c := 12) (ty := .char) rfl (Or.inr (Or.inl ⟨rfl, rfl⟩)) war_char (by decide) (by decide) (Nat.le_of_ble_eq_true rfl) ⟨Nat.le_of_ble_eq_true rfl, Nat.le_of_ble_eq_true rfl⟩ (by decide +kernel) ?_
  show Ev l d mi_X10_init 457 [some (.ref 65)] [.ref 84, .ref 65] hc_226 19 1674 _
  refine Ev.blk (pc' := 488) [(.dup, 0, 0, 0), (.iconst 0, 0, 0, 0), (.bipush 103, 0, 0, 0), (.castore, 0, 0, 0), (.dup, 0, 0, 0), (.iconst 1, 0, 0, 0), (.bipush 114, 0, 0, 0), (.castore, 0, 0, 0), (.dup, 0, 0, 0), (.iconst 2, 0, 0, 0), (.bipush 111, 0, 0, 0), (.castore, 0, 0, 0), (.dup, 0, 0, 0), (.iconst 3, 0, 0, 0), (.bipush 119, 0, 0, 0), (.castore, 0, 0, 0), (.dup, 0, 0, 0), (.iconst 4, 0, 0, 0), (.bipush 115, 0, 0, 0), (.castore, 0, 0, 0), (.putfield 69, 0, 10, 27), (.aload_n 0, 0, 0, 0), (.bipush 6, 0, 0, 0)] (by decide +kernel) ⟨⟨kf_10_69, Or.inr ⟨rfl, rfl, rfl⟩⟩, trivial⟩ rfl (And.intro rfl (And.intro (kc rfl rfl) (And.intro (ib_ok rfl) (And.intro rfl (And.intro (kc rfl rfl) (And.intro (ib_ok rfl) (And.intro rfl (And.intro (kc rfl rfl) (And.intro (ib_ok rfl) (And.intro rfl (And.intro (kc rfl rfl) (And.intro (ib_ok rfl) (And.intro rfl (And.intro (kc rfl rfl) (And.intro (ib_ok rfl) (And.intro (kc rfl rfl) (?_)))))))))))))))))
  show Ev l d mi_X10_init 488 [some (.ref 65)] [.int 6, .ref 65] hc_227 19 1674 _
  refine Ev.newarray (at' := .char) (c := 12) (ty := .char) rfl (Or.inr (Or.inl ⟨rfl, rfl⟩)) war_char (by decide) (by decide) (Nat.le_of_ble_eq_true rfl) ⟨Nat.le_of_ble_eq_true rfl, Nat.le_of_ble_eq_true rfl⟩ (by decide +kernel) ?_
  show Ev l d mi_X10_init 490 [some (.ref 65)] [.ref 85, .ref 65] hc_228 20 1680 _
  refine Ev.blk (pc' := 525) [(.dup, 0, 0, 0), (.iconst 0, 0, 0, 0), (.bipush 115, 0, 0, 0), (.castore, 0, 0, 0), (.dup, 0, 0, 0), (.iconst 1, 0, 0, 0), (.bipush 108, 0, 0, 0), (.castore, 0, 0, 0), (.dup, 0, 0, 0), (.iconst 2, 0, 0, 0), (.bipush 101, 0, 0, 0), (.castore, 0, 0, 0), (.dup, 0, 0, 0), (.iconst 3, 0, 0, 0), (.bipush 101, 0, 0, 0), (.castore, 0, 0, 0), (.dup, 0, 0, 0), (.iconst 4, 0, 0, 0), (.bipush 112, 0, 0, 0), (.castore, 0, 0, 0), (.dup, 0, 0, 0), (.iconst 5, 0, 0, 0), (.bipush 121, 0, 0, 0), (.castore, 0, 0, 0), (.putfield 72, 0, 10, 28), (.aload_n 0, 0, 0, 0), (.iconst 5, 0, 0, 0)] (by decide +kernel) ⟨⟨kf_10_72, Or.inr ⟨rfl, rfl, rfl⟩⟩, trivial⟩ rfl (And.intro rfl (And.intro (kc rfl rfl) (And.intro (ib_ok rfl) (And.intro rfl (And.intro (kc rfl rfl) (And.intro (ib_ok rfl) (And.intro rfl (And.intro (kc rfl rfl) (And.intro (ib_ok rfl) (And.intro rfl (And.intro (kc rfl rfl) (And.intro (ib_ok rfl) (And.intro rfl (And.intro (kc rfl rfl) (And.intro (ib_ok rfl) (And.intro rfl (And.intro (kc rfl rfl) (And.intro (ib_ok rfl) (And.intro (kc rfl rfl) (?_))))))))))))))))))))
  show Ev l d mi_X10_init 525 [some (.ref 65)] [.int 5, .ref 65] hc_229 20 1680 _
  refine Ev.newarray (at' := .char) (c := 12) (ty := .char) rfl (Or.inr (Or.inl ⟨rfl, rfl⟩)) war_char (by decide) (by decide) (Nat.le_of_ble_eq_true rfl) ⟨Nat.le_of_ble_eq_true rfl, Nat.le_of_ble_eq_true rfl⟩ (by decide +kernel) ?_
  show Ev l d mi_X10_init 527 [some (.ref 65)] [.ref 86, .ref 65] hc_230 21 1685 _
  refine Ev.blk (pc' := 557) [(.dup, 0, 0, 0), (.iconst 0, 0, 0, 0), (.bipush 116, 0, 0, 0), (.castore, 0, 0, 0), (.dup, 0, 0, 0), (.iconst 1, 0, 0, 0), (.bipush 97, 0, 0, 0), (.castore, 0, 0, 0), (.dup, 0, 0, 0), (.iconst 2, 0, 0, 0), (.bipush 107, 0, 0, 0), (.castore, 0, 0, 0), (.dup, 0, 0, 0), (.iconst 3, 0, 0, 0), (.bipush 101, 0, 0, 0), (.castore, 0, 0, 0), (.dup, 0, 0, 0), (.iconst 4, 0, 0, 0), (.bipush 110, 0, 0, 0), (.castore, 0, 0, 0), (.putfield 75, 0, 10, 29), (.aload_n 0, 0, 0, 0), (.iconst 5, 0, 0, 0)] (by decide +kernel) ⟨⟨kf_10_75, Or.inr ⟨rfl, rfl, rfl⟩⟩, trivial⟩ rfl (And.intro rfl (And.intro (kc rfl rfl) (And.intro (ib_ok rfl) (And.intro rfl (And.intro (kc rfl rfl) (And.intro (ib_ok rfl) (And.intro rfl (And.intro (kc rfl rfl) (And.intro (ib_ok rfl) (And.intro rfl (And.intro (kc rfl rfl) (And.intro (ib_ok rfl) (And.intro rfl (And.intro (kc rfl rfl) (And.intro (ib_ok rfl) (And.intro (kc rfl rfl) (?_)))))))))))))))))
  show Ev l d mi_X10_init 557 [some (.ref 65)] [.int 5, .ref 65] hc_231 21 1685 _
  refine Ev.newarray (at' := .char) (c := 12) (ty := .char) rfl (Or.inr (Or.inl ⟨rfl, rfl⟩)) war_char (by decide) (by decide) (Nat.le_of_ble_eq_true rfl) ⟨Nat.le_of_ble_eq_true rfl, Nat.le_of_ble_eq_true rfl⟩ (by decide +kernel) ?_
  show Ev l d mi_X10_init 559 [some (.ref 65)] [.ref 87, .ref 65] hc_232 22 1690 _
  refine Ev.blk (pc' := 589) [(.dup, 0, 0, 0), (.iconst 0, 0, 0, 0), (.bipush 99, 0, 0, 0), (.castore, 0, 0, 0), (.dup, 0, 0, 0), (.iconst 1, 0, 0, 0), (.bipush 104, 0, 0, 0), (.castore, 0, 0, 0), (.dup, 0, 0, 0), (.iconst 2, 0, 0, 0), (.bipush 101, 0, 0, 0), (.castore, 0, 0, 0), (.dup, 0, 0, 0), (.iconst 3, 0, 0, 0), (.bipush 99, 0, 0, 0), (.castore, 0, 0, 0), (.dup, 0, 0, 0), (.iconst 4, 0, 0, 0), (.bipush 107, 0, 0, 0), (.castore, 0, 0, 0), (.putfield 78, 0, 10, 30), (.aload_n 0, 0, 0, 0), (.iconst 3, 0, 0, 0)] (by decide +kernel) ⟨⟨kf_10_78, Or.inr ⟨rfl, rfl, rfl⟩⟩, trivial⟩ rfl (And.intro rfl (And.intro (kc rfl rfl) (And.intro (ib_ok rfl) (And.intro rfl (And.intro (kc rfl rfl) (And.intro (ib_ok rfl) (And.intro rfl (And.intro (kc rfl rfl) (And.intro (ib_ok rfl) (And.intro rfl (And.intro (kc rfl rfl) (And.intro (ib_ok rfl) (And.intro rfl (And.intro (kc rfl rfl) (And.intro (ib_ok rfl) (And.intro (kc rfl rfl) (?_)))))))))))))))))
  show Ev l d mi_X10_init 589 [some (.ref 65)] [.int 3, .ref 65] hc_233 22 1690 _
  refine Ev.newarray (at' := .char) (c := 12) (ty := .char) rfl (Or.inr (Or.inl ⟨rfl, rfl⟩)) war_char (by decide) (by decide) (Nat.le_of_ble_eq_true rfl) ⟨Nat.le_of_ble_eq_true rfl, Nat.le_of_ble_eq_true rfl⟩ (by decide +kernel) ?_
  show Ev l d mi_X10_init 591 [some (.ref 65)] [.ref 88, .ref 65] hc_234 23 1693 _
  refine Ev.blk (pc' := 611) [(.dup, 0, 0, 0), (.iconst 0, 0, 0, 0), (.bipush 111, 0, 0, 0), (.castore, 0, 0, 0), (.dup, 0, 0, 0), (.iconst 1, 0, 0, 0), (.bipush 102, 0, 0, 0), (.castore, 0, 0, 0), (.dup, 0, 0, 0), (.iconst 2, 0, 0, 0), (.bipush 102, 0, 0, 0), (.castore, 0, 0, 0), (.putfield 81, 0, 10, 31), (.aload_n 0, 0, 0, 0), (.iconst 3, 0, 0, 0)] (by decide +kernel) ⟨⟨kf_10_81, Or.inr ⟨rfl, rfl, rfl⟩⟩, trivial⟩ rfl (And.intro rfl (And.intro (kc rfl rfl) (And.intro (ib_ok rfl) (And.intro rfl (And.intro (kc rfl rfl) (And.intro (ib_ok rfl) (And.intro rfl (And.intro (kc rfl rfl) (And.intro (ib_ok rfl) (And.intro (kc rfl rfl) (?_)))))))))))
  show Ev l d mi_X10_init 611 [some (.ref 65)] [.int 3, .ref 65] hc_235 23 1693 _
  refine Ev.newarray (at' := .char) (c := 12) (ty := .char) rfl (Or.inr (Or.inl ⟨rfl, rfl⟩)) war_char (by decide) (by decide) (Nat.le_of_ble_eq_true rfl) ⟨Nat.le_of_ble_eq_true rfl, Nat.le_of_ble_eq_true rfl⟩ (by decide +kernel) ?_
  show Ev l d mi_X10_init 613 [some (.ref 65)] [.ref 89, .ref 65] hc_236 24 1696 _
  refine Ev.blk (pc' := 634) [(.dup, 0, 0, 0), (.iconst 0, 0, 0, 0), (.bipush 100, 0, 0, 0), (.castore, 0, 0, 0), (.dup, 0, 0, 0), (.iconst 1, 0, 0, 0), (.bipush 97, 0, 0, 0), (.castore, 0, 0, 0), (.dup, 0, 0, 0), (.iconst 2, 0, 0, 0), (.bipush 121, 0, 0, 0), (.castore, 0, 0, 0), (.putfield 84, 0, 10, 32), (.aload_n 0, 0, 0, 0), (.bipush 6, 0, 0, 0)] (by decide +kernel) ⟨⟨kf_10_84, Or.inr ⟨rfl, rfl, rfl⟩⟩, trivial⟩ rfl (And.intro rfl (And.intro (kc rfl rfl) (And.intro (ib_ok rfl) (And.intro rfl (And.intro (kc rfl rfl) (And.intro (ib_ok rfl) (And.intro rfl (And.intro (kc rfl rfl) (And.intro (ib_ok rfl) (And.intro (kc rfl rfl) (?_)))))))))))
  show Ev l d mi_X10_init 634 [some (.ref 65)] [.int 6, .ref 65] hc_237 24 1696 _
  refine Ev.newarray (at' := .char) (c := 12) (ty := .char) rfl (Or.inr (Or.inl ⟨rfl, rfl⟩)) war_char (by decide) (by decide) (Nat.le_of_ble_eq_true rfl) ⟨Nat.le_of_ble_eq_true rfl, Nat.le_of_ble_eq_true rfl⟩ (by decide +kernel) ?_
  show Ev l d mi_X10_init 636 [some (.ref 65)] [.ref 90, .ref 65] hc_238 25 1702 _
  refine Ev.blk (pc' := 672) [(.dup, 0, 0, 0), (.iconst 0, 0, 0, 0), (.bipush 110, 0, 0, 0), (.castore, 0, 0, 0), (.dup, 0, 0, 0), (.iconst 1, 0, 0, 0), (.bipush 117, 0, 0, 0), (.castore, 0, 0, 0), (.dup, 0, 0, 0), (.iconst 2, 0, 0, 0), (.bipush 109, 0, 0, 0), (.castore, 0, 0, 0), (.dup, 0, 0, 0), (.iconst 3, 0, 0, 0), (.bipush 98, 0, 0, 0), (.castore, 0, 0, 0), (.dup, 0, 0, 0), (.iconst 4, 0, 0, 0), (.bipush 101, 0, 0, 0), (.castore, 0, 0, 0), (.dup, 0, 0, 0), (.iconst 5, 0, 0, 0), (.bipush 114, 0, 0, 0), (.castore, 0, 0, 0), (.putfield 87, 0, 10, 33), (.aload_n 0, 0, 0, 0), (.bipush 6, 0, 0, 0)] (by decide +kernel) ⟨⟨kf_10_87, Or.inr ⟨rfl, rfl, rfl⟩⟩, trivial⟩ rfl (And.intro rfl (And.intro (kc rfl rfl) (And.intro (ib_ok rfl) (And.intro rfl (And.intro (kc rfl rfl) (And.intro (ib_ok rfl) (And.intro rfl (And.intro (kc rfl rfl) (And.intro (ib_ok rfl) (And.intro rfl (And.intro (kc rfl rfl) (And.intro (ib_ok rfl) (And.intro rfl (And.intro (kc rfl rfl) (And.intro (ib_ok rfl) (And.intro rfl (And.intro (kc rfl rfl) (And.intro (ib_ok rfl) (And.intro (kc rfl rfl) (?_))))))))))))))))))))
  show Ev l d mi_X10_init 672 [some (.ref 65)] [.int 6, .ref 65] hc_239 25 1702 _
  refine Ev.newarray (at' := .char) (c := 12) (ty := .char) rfl (Or.inr (Or.inl ⟨rfl, rfl⟩)) war_char (by decide) (by decide) (Nat.le_of_ble_eq_true rfl) ⟨Nat.le_of_ble_eq_true rfl, Nat.le_of_ble_eq_true rfl⟩ (by decide +kernel) ?_
  show Ev l d mi_X10_init 674 [some (.ref 65)] [.ref 91, .ref 65] hc_240 26 1708 _
  refine Ev.blk (pc' := 709) [(.dup, 0, 0, 0), (.iconst 0, 0, 0, 0), (.bipush 99, 0, 0, 0), (.castore, 0, 0, 0), (.dup, 0, 0, 0), (.iconst 1, 0, 0, 0), (.bipush 111, 0, 0, 0), (.castore, 0, 0, 0), (.dup, 0, 0, 0), (.iconst 2, 0, 0, 0), (.bipush 108, 0, 0, 0), (.castore, 0, 0, 0), (.dup, 0, 0, 0), (.iconst 3, 0, 0, 0), (.bipush 117, 0, 0, 0), (.castore, 0, 0, 0), (.dup, 0, 0, 0), (.iconst 4, 0, 0, 0), (.bipush 109, 0, 0, 0), (.castore, 0, 0, 0), (.dup, 0, 0, 0), (.iconst 5, 0, 0, 0), (.bipush 110, 0, 0, 0), (.castore, 0, 0, 0), (.putfield 90, 0, 10, 34), (.aload_n 0, 0, 0, 0), (.iconst 3, 0, 0, 0)] (by decide +kernel) ⟨⟨kf_10_90, Or.inr ⟨rfl, rfl, rfl⟩⟩, trivial⟩ rfl (And.intro rfl (And.intro (kc rfl rfl) (And.intro (ib_ok rfl) (And.intro rfl (And.intro (kc rfl rfl) (And.intro (ib_ok rfl) (And.intro rfl (And.intro (kc rfl rfl) (And.intro (ib_ok rfl) (And.intro rfl (And.intro (kc rfl rfl) (And.intro (ib_ok rfl) (And.intro rfl (And.intro (kc rfl rfl) (And.intro (ib_ok rfl) (And.intro rfl (And.intro (kc rfl rfl) (And.intro (ib_ok rfl) (And.intro (kc rfl rfl) (?_))))))))))))))))))))
  show Ev l d mi_X10_init 709 [some (.ref 65)] [.int 3, .ref 65] hc_241 26 1708 _
  refine Ev.newarray (at' := .char) (c := 12) (ty := .char) rfl (Or.inr (Or.inl ⟨rfl, rfl⟩)) war_char (by decide) (by decide) (Nat.le_of_ble_eq_true rfl) ⟨Nat.le_of_ble_eq_true rfl, Nat.le_of_ble_eq_true rfl⟩ (by decide +kernel) ?_
  show Ev l d mi_X10_init 711 [some (.ref 65)] [.ref 92, .ref 65] hc_242 27 1711 _
  refine Ev.blk (pc' := 731) [(.dup, 0, 0, 0), (.iconst 0, 0, 0, 0), (.bipush 114, 0, 0, 0), (.castore, 0, 0, 0), (.dup, 0, 0, 0), (.iconst 1, 0, 0, 0), (.bipush 111, 0, 0, 0), (.castore, 0, 0, 0), (.dup, 0, 0, 0), (.iconst 2, 0, 0, 0), (.bipush 119, 0, 0, 0), (.castore, 0, 0, 0), (.putfield 93, 0, 10, 35), (.aload_n 0, 0, 0, 0), (.iconst 4, 0, 0, 0)] (by decide +kernel) ⟨⟨kf_10_93, Or.inr ⟨rfl, rfl, rfl⟩⟩, trivial⟩ rfl (And.intro rfl (And.intro (kc rfl rfl) (And.intro (ib_ok rfl) (And.intro rfl (And.intro (kc rfl rfl) (And.intro (ib_ok rfl) (And.intro rfl (And.intro (kc rfl rfl) (And.intro (ib_ok rfl) (And.intro (kc rfl rfl) (?_)))))))))))
  show Ev l d mi_X10_init 731 [some (.ref 65)] [.int 4, .ref 65] hc_243 27 1711 _
  refine Ev.newarray (at' := .char) (c := 12) (ty := .char) rfl (Or.inr (Or.inl ⟨rfl, rfl⟩)) war_char (by decide) (by decide) (Nat.le_of_ble_eq_true rfl) ⟨Nat.le_of_ble_eq_true rfl, Nat.le_of_ble_eq_true rfl⟩ (by decide +kernel) ?_
  show Ev l d mi_X10_init 733 [some (.ref 65)] [.ref 93, .ref 65] hc_244 28 1715 _
  refine Ev.blk (pc' := 758) [(.dup, 0, 0, 0), (.iconst 0, 0, 0, 0), (.bipush 115, 0, 0, 0), (.castore, 0, 0, 0), (.dup, 0, 0, 0), (.iconst 1, 0, 0, 0), (.bipush 105, 0, 0, 0), (.castore, 0, 0, 0), (.dup, 0, 0, 0), (.iconst 2, 0, 0, 0), (.bipush 100, 0, 0, 0), (.castore, 0, 0, 0), (.dup, 0, 0, 0), (.iconst 3, 0, 0, 0), (.bipush 101, 0, 0, 0), (.castore, 0, 0, 0), (.putfield 96, 0, 10, 36), (.aload_n 0, 0, 0, 0), (.iconst 5, 0, 0, 0)] (by decide +kernel) ⟨⟨kf_10_96, Or.inr ⟨rfl, rfl, rfl⟩⟩, trivial⟩ rfl (And.intro rfl (And.intro (kc rfl rfl) (And.intro (ib_ok rfl) (And.intro rfl (And.intro (kc rfl rfl) (And.intro (ib_ok rfl) (And.intro rfl (And.intro (kc rfl rfl) (And.intro (ib_ok rfl) (And.intro rfl (And.intro (kc rfl rfl) (And.intro (ib_ok rfl) (And.intro (kc rfl rfl) (?_))))))))))))))
  show Ev l d mi_X10_init 758 [some (.ref 65)] [.int 5, .ref 65] hc_245 28 1715 _
  refine Ev.newarray (at' := .char) (c := 12) (ty := .char) rfl (Or.inr (Or.inl ⟨rfl, rfl⟩)) war_char (by decide) (by decide) (Nat.le_of_ble_eq_true rfl) ⟨Nat.le_of_ble_eq_true rfl, Nat.le_of_ble_eq_true rfl⟩ (by decide +kernel) ?_
  show Ev l d mi_X10_init 760 [some (.ref 65)] [.ref 94, .ref 65] hc_246 29 1720 _
  refine Ev.blk (pc' := 790) [(.dup, 0, 0, 0), (.iconst 0, 0, 0, 0), (.bipush 109, 0, 0, 0), (.castore, 0, 0, 0), (.dup, 0, 0, 0), (.iconst 1, 0, 0, 0), (.bipush 111, 0, 0, 0), (.castore, 0, 0, 0), (.dup, 0, 0, 0), (.iconst 2, 0, 0, 0), (.bipush 118, 0, 0, 0), (.castore, 0, 0, 0), (.dup, 0, 0, 0), (.iconst 3, 0, 0, 0), (.bipush 101, 0, 0, 0), (.castore, 0, 0, 0), (.dup, 0, 0, 0), (.iconst 4, 0, 0, 0), (.bipush 115, 0, 0, 0), (.castore, 0, 0, 0), (.putfield 99, 0, 10, 37), (.aload_n 0, 0, 0, 0), (.iconst 2, 0, 0, 0)] (by decide +kernel) ⟨⟨kf_10_99, Or.inr ⟨rfl, rfl, rfl⟩⟩, trivial⟩ rfl (And.intro rfl (And.intro (kc rfl rfl) (And.intro (ib_ok rfl) (And.intro rfl (And.intro (kc rfl rfl) (And.intro (ib_ok rfl) (And.intro rfl (And.intro (kc rfl rfl) (And.intro (ib_ok rfl) (And.intro rfl (And.intro (kc rfl rfl) (And.intro (ib_ok rfl) (And.intro rfl (And.intro (kc rfl rfl) (And.intro (ib_ok rfl) (And.intro (kc rfl rfl) (?_)))))))))))))))))
  show Ev l d mi_X10_init 790 [some (.ref 65)] [.int 2, .ref 65] hc_247 29 1720 _
  refine Ev.newarray (at' := .char) (c := 12) (ty := .char) rfl (Or.inr (Or.inl ⟨rfl, rfl⟩)) war_char (by decide) (by decide) (Nat.le_of_ble_eq_true rfl) ⟨Nat.le_of_ble_eq_true rfl, Nat.le_of_ble_eq_true rfl⟩ (by decide +kernel) ?_
  show Ev l d mi_X10_init 792 [some (.ref 65)] [.ref 95, .ref 65] hc_248 30 1722 _
  refine Ev.blk (pc' := 807) [(.dup, 0, 0, 0), (.iconst 0, 0, 0, 0), (.bipush 111, 0, 0, 0), (.castore, 0, 0, 0), (.dup, 0, 0, 0), (.iconst 1, 0, 0, 0), (.bipush 114, 0, 0, 0), (.castore, 0, 0, 0), (.putfield 102, 0, 10, 38), (.aload_n 0, 0, 0, 0), (.iconst 3, 0, 0, 0)] (by decide +kernel) ⟨⟨kf_10_102, Or.inr ⟨rfl, rfl, rfl⟩⟩, trivial⟩ rfl (And.intro rfl (And.intro (kc rfl rfl) (And.intro (ib_ok rfl) (And.intro rfl (And.intro (kc rfl rfl) (And.intro (ib_ok rfl) (And.intro (kc rfl rfl) (?_))))))))
  show Ev l d mi_X10_init 807 [some (.ref 65)] [.int 3, .ref 65] hc_249 30 1722 _
  refine Ev.newarray (at' := .char) (c := 12) (ty := .char) rfl (Or.inr (Or.inl ⟨rfl, rfl⟩)) war_char (by decide) (by decide) (Nat.le_of_ble_eq_true rfl) ⟨Nat.le_of_ble_eq_true rfl, Nat.le_of_ble_eq_true rfl⟩ (by decide +kernel) ?_
  show Ev l d mi_X10_init 809 [some (.ref 65)] [.ref 96, .ref 65] hc_250 31 1725 _
  refine Ev.blk (pc' := 829) [(.dup, 0, 0, 0), (.iconst 0, 0, 0, 0), (.bipush 97, 0, 0, 0), (.castore, 0, 0, 0), (.dup, 0, 0, 0), (.iconst 1, 0, 0, 0), (.bipush 110, 0, 0, 0), (.castore, 0, 0, 0), (.dup, 0, 0, 0), (.iconst 2, 0, 0, 0), (.bipush 100, 0, 0, 0), (.castore, 0, 0, 0), (.putfield 105, 0, 10, 39), (.aload_n 0, 0, 0, 0), (.iconst 3, 0, 0, 0)] (by decide +kernel) ⟨⟨kf_10_105, Or.inr ⟨rfl, rfl, rfl⟩⟩, trivial⟩ rfl (And.intro rfl (And.intro (kc rfl rfl) (And.intro (ib_ok rfl) (And.intro rfl (And.intro (kc rfl rfl) (And.intro (ib_ok rfl) (And.intro rfl (And.intro (kc rfl rfl) (And.intro (ib_ok rfl) (And.intro (kc rfl rfl) (?_)))))))))))
  show Ev l d mi_X10_init 829 [some (.ref 65)] [.int 3, .ref 65] hc_251 31 1725 _
  refine Ev.newarray (at' := .char) (c := 12) (ty := .char) rfl (Or.inr (Or.inl ⟨rfl, rfl⟩)) war_char (by decide) (by decide) (Nat.le_of_ble_eq_true rfl) ⟨Nat.le_of_ble_eq_true rfl, Nat.le_of_ble_eq_true rfl⟩ (by decide +kernel) ?_
  show Ev l d mi_X10_init 831 [some (.ref 65)] [.ref 97, .ref 65] hc_252 32 1728 _
  refine Ev.blk (pc' := 851) [(.dup, 0, 0, 0), (.iconst 0, 0, 0, 0), (.bipush 110, 0, 0, 0), (.castore, 0, 0, 0), (.dup, 0, 0, 0), (.iconst 1, 0, 0, 0), (.bipush 111, 0, 0, 0), (.castore, 0, 0, 0), (.dup, 0, 0, 0), (.iconst 2, 0, 0, 0), (.bipush 116, 0, 0, 0), (.castore, 0, 0, 0), (.putfield 108, 0, 10, 40), (.aload_n 0, 0, 0, 0), (.iconst 3, 0, 0, 0)] (by decide +kernel) ⟨⟨kf_10_108, Or.inr ⟨rfl, rfl, rfl⟩⟩, trivial⟩ rfl (And.intro rfl (And.intro (kc rfl rfl) (And.intro (ib_ok rfl) (And.intro rfl (And.intro (kc rfl rfl) (And.intro (ib_ok rfl) (And.intro rfl (And.intro (kc rfl rfl) (And.intro (ib_ok rfl) (And.intro (kc rfl rfl) (?_)))))))))))
  show Ev l d mi_X10_init 851 [some (.ref 65)] [.int 3, .ref 65] hc_253 32 1728 _
  refine Ev.newarray (at' := .char) (c := 12) (ty := .char) rfl (Or.inr (Or.inl ⟨rfl, rfl⟩)) war_char (by decide) (by decide) (Nat.le_of_ble_eq_true rfl) ⟨Nat.le_of_ble_eq_true rfl, Nat.le_of_ble_eq_true rfl⟩ (by decide +kernel) ?_
  show Ev l d mi_X10_init 853 [some (.ref 65)] [.ref 98, .ref 65] hc_254 33 1731 _
  refine Ev.blk (pc' := 873) [(.dup, 0, 0, 0), (.iconst 0, 0, 0, 0), (.bipush 97, 0, 0, 0), (.castore, 0, 0, 0), (.dup, 0, 0, 0), (.iconst 1, 0, 0, 0), (.bipush 108, 0, 0, 0), (.castore, 0, 0, 0), (.dup, 0, 0, 0), (.iconst 2, 0, 0, 0), (.bipush 108, 0, 0, 0), (.castore, 0, 0, 0), (.putfield 111, 0, 10, 41), (.aload_n 0, 0, 0, 0), (.iconst 3, 0, 0, 0)] (by decide +kernel) ⟨⟨kf_10_111, Or.inr ⟨rfl, rfl, rfl⟩⟩, trivial⟩ rfl (And.intro rfl (And.intro (kc rfl rfl) (And.intro (ib_ok rfl) (And.intro rfl (And.intro (kc rfl rfl) (And.intro (ib_ok rfl) (And.intro rfl (And.intro (kc rfl rfl) (And.intro (ib_ok rfl) (And.intro (kc rfl rfl) (?_)))))))))))
  show Ev l d mi_X10_init 873 [some (.ref 65)] [.int 3, .ref 65] hc_255 33 1731 _
  refine Ev.newarray (at' := .char) (c := 12) (ty := .char) rfl (Or.inr (Or.inl ⟨rfl, rfl⟩)) war_char (by decide) (by decide) (Nat.le_of_ble_eq_true rfl) ⟨Nat.le_of_ble_eq_true rfl, Nat.le_of_ble_eq_true rfl⟩ (by decide +kernel) ?_
  show Ev l d mi_X10_init 875 [some (.ref 65)] [.ref 99, .ref 65] hc_256 34 1734 _
  refine Ev.blk (pc' := 895) [(.dup, 0, 0, 0), (.iconst 0, 0, 0, 0), (.bipush 109, 0, 0, 0), (.castore, 0, 0, 0), (.dup, 0, 0, 0), (.iconst 1, 0, 0, 0), (.bipush 105, 0, 0, 0), (.castore, 0, 0, 0), (.dup, 0, 0, 0), (.iconst 2, 0, 0, 0), (.bipush 110, 0, 0, 0), (.castore, 0, 0, 0), (.putfield 114, 0, 10, 42), (.aload_n 0, 0, 0, 0), (.iconst 3, 0, 0, 0)] (by decide +kernel) ⟨⟨kf_10_114, Or.inr ⟨rfl, rfl, rfl⟩⟩, trivial⟩ rfl (And.intro rfl (And.intro (kc rfl rfl) (And.intro (ib_ok rfl) (And.intro rfl (And.intro (kc rfl rfl) (And.intro (ib_ok rfl) (And.intro rfl (And.intro (kc rfl rfl) (And.intro (ib_ok rfl) (And.intro (kc rfl rfl) (?_)))))))))))
  show Ev l d mi_X10_init 895 [some (.ref 65)] [.int 3, .ref 65] hc_257 34 1734 _
  refine Ev.newarray (at' := .char) (c := 12) (ty := .char) rfl (Or.inr (Or.inl ⟨rfl, rfl⟩)) war_char (by decide) (by decide) (Nat.le_of_ble_eq_true rfl) ⟨Nat.le_of_ble_eq_true rfl, Nat.le_of_ble_eq_true rfl⟩ (by decide +kernel) ?_
  show Ev l d mi_X10_init 897 [some (.ref 65)] [.ref 100, .ref 65] hc_258 35 1737 _
  refine Ev.blk (pc' := 918) [(.dup, 0, 0, 0), (.iconst 0, 0, 0, 0), (.bipush 109, 0, 0, 0), (.castore, 0, 0, 0), (.dup, 0, 0, 0), (.iconst 1, 0, 0, 0), (.bipush 97, 0, 0, 0), (.castore, 0, 0, 0), (.dup, 0, 0, 0), (.iconst 2, 0, 0, 0), (.bipush 120, 0, 0, 0), (.castore, 0, 0, 0), (.putfield 117, 0, 10, 43), (.aload_n 0, 0, 0, 0), (.bipush 6, 0, 0, 0)] (by decide +kernel) ⟨⟨kf_10_117, Or.inr ⟨rfl, rfl, rfl⟩⟩, trivial⟩ rfl (And.intro rfl (And.intro (kc rfl rfl) (And.intro (ib_ok rfl) (And.intro rfl (And.intro (kc rfl rfl) (And.intro (ib_ok rfl) (And.intro rfl (And.intro (kc rfl rfl) (And.intro (ib_ok rfl) (And.intro (kc rfl rfl) (?_)))))))))))
  show Ev l d mi_X10_init 918 [some (.ref 65)] [.int 6, .ref 65] hc_259 35 1737 _
  refine Ev.newarray (at' := .int) (c := 13) (ty := .int) rfl (Or.inr (Or.inr ⟨rfl, rfl⟩)) war_int (by decide) (by decide) (Nat.le_of_ble_eq_true rfl) ⟨Nat.le_of_ble_eq_true rfl, Nat.le_of_ble_eq_true rfl⟩ (by decide +kernel) ?_
  show Ev l d mi_X10_init 920 [some (.ref 65)] [.ref 101, .ref 65] hc_260 36 1743 _
  refine Ev.blk (pc' := 926) [(.putfield 120, 0, 10, 45), (.aload_n 0, 0, 0, 0), (.bipush 48, 0, 0, 0)] (by decide +kernel) ⟨⟨kf_10_120, Or.inr ⟨rfl, rfl, rfl⟩⟩, trivial⟩ rfl (And.intro (kc rfl rfl) (?_))
  show Ev l d mi_X10_init 926 [some (.ref 65)] [.int 48, .ref 65] hc_261 36 1743 _
  refine Ev.newlongs war_long (by decide) (by decide) (Nat.le_of_ble_eq_true rfl) ⟨Nat.le_of_ble_eq_true rfl, Nat.le_of_ble_eq_true rfl⟩ (by decide +kernel) ?_
  show Ev l d mi_X10_init 928 [some (.ref 65)] [.ref 102, .ref 65] hc_262 37 1791 _
  refine Ev.blk (pc' := 934) [(.putfield 123, 0, 10, 46), (.aload_n 0, 0, 0, 0), (.bipush 8, 0, 0, 0)] (by decide +kernel) ⟨⟨kf_10_123, Or.inr ⟨rfl, rfl, rfl⟩⟩, trivial⟩ rfl (And.intro (kc rfl rfl) (?_))
  show Ev l d mi_X10_init 934 [some (.ref 65)] [.int 8, .ref 65] hc_263 37 1791 _
  refine Ev.newarray (at' := .int) (c := 13) (ty := .int) rfl (Or.inr (Or.inr ⟨rfl, rfl⟩)) war_int (by decide) (by decide) (Nat.le_of_ble_eq_true rfl) ⟨Nat.le_of_ble_eq_true rfl, Nat.le_of_ble_eq_true rfl⟩ (by decide +kernel) ?_
  show Ev l d mi_X10_init 936 [some (.ref 65)] [.ref 103, .ref 65] hc_264 38 1799 _
  refine Ev.blk (pc' := 942) [(.putfield 127, 0, 10, 47), (.aload_n 0, 0, 0, 0), (.bipush 40, 0, 0, 0)] (by decide +kernel) ⟨⟨kf_10_127, Or.inr ⟨rfl, rfl, rfl⟩⟩, trivial⟩ rfl (And.intro (kc rfl rfl) (?_))
  show Ev l d mi_X10_init 942 [some (.ref 65)] [.int 40, .ref 65] hc_265 38 1799 _
  refine Ev.newarray (at' := .int) (c := 13) (ty := .int) rfl (Or.inr (Or.inr ⟨rfl, rfl⟩)) war_int (by decide) (by decide) (Nat.le_of_ble_eq_true rfl) ⟨Nat.le_of_ble_eq_true rfl, Nat.le_of_ble_eq_true rfl⟩ (by decide +kernel) ?_
  show Ev l d mi_X10_init 944 [some (.ref 65)] [.ref 104, .ref 65] hc_266 39 1839 _
  refine Ev.blk (pc' := 950) [(.putfield 130, 0, 10, 48), (.aload_n 0, 0, 0, 0), (.bipush 32, 0, 0, 0)] (by decide +kernel) ⟨⟨kf_10_130, Or.inr ⟨rfl, rfl, rfl⟩⟩, trivial⟩ rfl (And.intro (kc rfl rfl) (?_))
  show Ev l d mi_X10_init 950 [some (.ref 65)] [.int 32, .ref 65] hc_267 39 1839 _
  refine Ev.newarray (at' := .int) (c := 13) (ty := .int) rfl (Or.inr (Or.inr ⟨rfl, rfl⟩)) war_int (by decide) (by decide) (Nat.le_of_ble_eq_true rfl) ⟨Nat.le_of_ble_eq_true rfl, Nat.le_of_ble_eq_true rfl⟩ (by decide +kernel) ?_
  show Ev l d mi_X10_init 952 [some (.ref 65)] [.ref 105, .ref 65] hc_268 40 1871 _
  refine Ev.blk (pc' := 958) [(.putfield 133, 0, 10, 49), (.aload_n 0, 0, 0, 0), (.bipush 16, 0, 0, 0)] (by decide +kernel) ⟨⟨kf_10_133, Or.inr ⟨rfl, rfl, rfl⟩⟩, trivial⟩ rfl (And.intro (kc rfl rfl) (?_))
  show Ev l d mi_X10_init 958 [some (.ref 65)] [.int 16, .ref 65] hc_269 40 1871 _
  refine Ev.newarray (at' := .int) (c := 13) (ty := .int) rfl (Or.inr (Or.inr ⟨rfl, rfl⟩)) war_int (by decide) (by decide) (Nat.le_of_ble_eq_true rfl) ⟨Nat.le_of_ble_eq_true rfl, Nat.le_of_ble_eq_true rfl⟩ (by decide +kernel) ?_
  show Ev l d mi_X10_init 960 [some (.ref 65)] [.ref 106, .ref 65] hc_270 41 1887 _
  refine Ev.blk (pc' := 966) [(.putfield 136, 0, 10, 50), (.aload_n 0, 0, 0, 0), (.bipush 36, 0, 0, 0)] (by decide +kernel) ⟨⟨kf_10_136, Or.inr ⟨rfl, rfl, rfl⟩⟩, trivial⟩ rfl (And.intro (kc rfl rfl) (?_))
  show Ev l d mi_X10_init 966 [some (.ref 65)] [.int 36, .ref 65] hc_271 41 1887 _
  refine Ev.newarray (at' := .int) (c := 13) (ty := .int) rfl (Or.inr (Or.inr ⟨rfl, rfl⟩)) war_int (by decide) (by decide) (Nat.le_of_ble_eq_true rfl) ⟨Nat.le_of_ble_eq_true rfl, Nat.le_of_ble_eq_true rfl⟩ (by decide +kernel) ?_
  show Ev l d mi_X10_init 968 [some (.ref 65)] [.ref 107, .ref 65] hc_272 42 1923 _
  refine Ev.blk (pc' := 973) [(.putfield 139, 0, 10, 51), (.aload_n 0, 0, 0, 0), (.iconst 4, 0, 0, 0)] (by decide +kernel) ⟨⟨kf_10_139, Or.inr ⟨rfl, rfl, rfl⟩⟩, trivial⟩ rfl (And.intro (kc rfl rfl) (?_))
  show Ev l d mi_X10_init 973 [some (.ref 65)] [.int 4, .ref 65] hc_273 42 1923 _
  refine Ev.newarray (at' := .int) (c := 13) (ty := .int) rfl (Or.inr (Or.inr ⟨rfl, rfl⟩)) war_int (by decide) (by decide) (Nat.le_of_ble_eq_true rfl) ⟨Nat.le_of_ble_eq_true rfl, Nat.le_of_ble_eq_true rfl⟩ (by decide +kernel) ?_
  show Ev l d mi_X10_init 975 [some (.ref 65)] [.ref 108, .ref 65] hc_274 43 1927 _
  refine Ev.blk (pc' := 980) [(.putfield 142, 0, 10, 52), (.aload_n 0, 0, 0, 0), (.iconst 2, 0, 0, 0)] (by decide +kernel) ⟨⟨kf_10_142, Or.inr ⟨rfl, rfl, rfl⟩⟩, trivial⟩ rfl (And.intro (kc rfl rfl) (?_))
  show Ev l d mi_X10_init 980 [some (.ref 65)] [.int 2, .ref 65] hc_275 43 1927 _
  refine Ev.newarray (at' := .int) (c := 13) (ty := .int) rfl (Or.inr (Or.inr ⟨rfl, rfl⟩)) war_int (by decide) (by decide) (Nat.le_of_ble_eq_true rfl) ⟨Nat.le_of_ble_eq_true rfl, Nat.le_of_ble_eq_true rfl⟩ (by decide +kernel) ?_
  show Ev l d mi_X10_init 982 [some (.ref 65)] [.ref 109, .ref 65] hc_276 44 1929 _
  refine Ev.blk (pc' := 995) [(.dup, 0, 0, 0), (.iconst 0, 0, 0, 0), (.iconst (-1), 0, 0, 0), (.iastore, 0, 0, 0), (.dup, 0, 0, 0), (.iconst 1, 0, 0, 0), (.iconst (-1), 0, 0, 0), (.iastore, 0, 0, 0), (.putfield 145, 0, 10, 53), (.aload_n 0, 0, 0, 0), (.iconst 2, 0, 0, 0)] (by decide +kernel) ⟨⟨kf_10_145, Or.inr ⟨rfl, rfl, rfl⟩⟩, trivial⟩ rfl (And.intro rfl (And.intro (kc rfl rfl) (And.intro (ib_ok rfl) (And.intro rfl (And.intro (kc rfl rfl) (And.intro (ib_ok rfl) (And.intro (kc rfl rfl) (?_))))))))
  show Ev l d mi_X10_init 995 [some (.ref 65)] [.int 2, .ref 65] hc_277 44 1929 _
  refine Ev.newarray (at' := .int) (c := 13) (ty := .int) rfl (Or.inr (Or.inr ⟨rfl, rfl⟩)) war_int (by decide) (by decide) (Nat.le_of_ble_eq_true rfl) ⟨Nat.le_of_ble_eq_true rfl, Nat.le_of_ble_eq_true rfl⟩ (by decide +kernel) ?_
  show Ev l d mi_X10_init 997 [some (.ref 65)] [.ref 110, .ref 65] hc_278 45 1931 _
  refine Ev.blk (pc' := 1004) [(.putfield 148, 0, 10, 54), (.aload_n 0, 0, 0, 0), (.sipush 3200, 0, 0, 0)] (by decide +kernel) ⟨⟨kf_10_148, Or.inr ⟨rfl, rfl, rfl⟩⟩, trivial⟩ rfl (And.intro (kc rfl rfl) (?_))
  show Ev l d mi_X10_init 1004 [some (.ref 65)] [.int 3200, .ref 65] hc_279 45 1931 _
  refine Ev.newarray (at' := .int) (c := 13) (ty := .int) rfl (Or.inr (Or.inr ⟨rfl, rfl⟩)) war_int (by decide) (by decide) (Nat.le_of_ble_eq_true rfl) ⟨Nat.le_of_ble_eq_true rfl, Nat.le_of_ble_eq_true rfl⟩ (by decide +kernel) ?_
  show Ev l d mi_X10_init 1006 [some (.ref 65)] [.ref 111, .ref 65] hc_280 46 5131 _
  refine Ev.blk (pc' := 1013) [(.putfield 151, 0, 10, 55), (.aload_n 0, 0, 0, 0), (.sipush 225, 0, 0, 0)] (by decide +kernel) ⟨⟨kf_10_151, Or.inr ⟨rfl, rfl, rfl⟩⟩, trivial⟩ rfl (And.intro (kc rfl rfl) (?_))
  show Ev l d mi_X10_init 1013 [some (.ref 65)] [.int 225, .ref 65] hc_281 46 5131 _
  refine Ev.newarray (at' := .int) (c := 13) (ty := .int) rfl (Or.inr (Or.inr ⟨rfl, rfl⟩)) war_int (by decide) (by decide) (Nat.le_of_ble_eq_true rfl) ⟨Nat.le_of_ble_eq_true rfl, Nat.le_of_ble_eq_true rfl⟩ (by decide +kernel) ?_
  show Ev l d mi_X10_init 1015 [some (.ref 65)] [.ref 112, .ref 65] hc_282 47 5356 _
  refine Ev.blk (pc' := 1021) [(.putfield 154, 0, 10, 62), (.aload_n 0, 0, 0, 0), (.bipush 24, 0, 0, 0)] (by decide +kernel) ⟨⟨kf_10_154, Or.inr ⟨rfl, rfl, rfl⟩⟩, trivial⟩ rfl (And.intro (kc rfl rfl) (?_))
  show Ev l d mi_X10_init 1021 [some (.ref 65)] [.int 24, .ref 65] hc_283 47 5356 _
  refine Ev.newarray (at' := .int) (c := 13) (ty := .int) rfl (Or.inr (Or.inr ⟨rfl, rfl⟩)) war_int (by decide) (by decide) (Nat.le_of_ble_eq_true rfl) ⟨Nat.le_of_ble_eq_true rfl, Nat.le_of_ble_eq_true rfl⟩ (by decide +kernel) ?_
  show Ev l d mi_X10_init 1023 [some (.ref 65)] [.ref 113, .ref 65] hc_284 48 5380 _
  refine Ev.blk (pc' := 1028) [(.putfield 157, 0, 10, 63), (.aload_n 0, 0, 0, 0), (.iconst 5, 0, 0, 0)] (by decide +kernel) ⟨⟨kf_10_157, Or.inr ⟨rfl, rfl, rfl⟩⟩, trivial⟩ rfl (And.intro (kc rfl rfl) (?_))
  show Ev l d mi_X10_init 1028 [some (.ref 65)] [.int 5, .ref 65] hc_285 48 5380 _
  refine Ev.newarray (at' := .int) (c := 13) (ty := .int) rfl (Or.inr (Or.inr ⟨rfl, rfl⟩)) war_int (by decide) (by decide) (Nat.le_of_ble_eq_true rfl) ⟨Nat.le_of_ble_eq_true rfl, Nat.le_of_ble_eq_true rfl⟩ (by decide +kernel) ?_
  show Ev l d mi_X10_init 1030 [some (.ref 65)] [.ref 114, .ref 65] hc_286 49 5385 _
  refine Ev.blk (pc' := 1035) [(.putfield 160, 0, 10, 64), (.aload_n 0, 0, 0, 0), (.iconst 5, 0, 0, 0)] (by decide +kernel) ⟨⟨kf_10_160, Or.inr ⟨rfl, rfl, rfl⟩⟩, trivial⟩ rfl (And.intro (kc rfl rfl) (?_))
  show Ev l d mi_X10_init 1035 [some (.ref 65)] [.int 5, .ref 65] hc_287 49 5385 _
  refine Ev.newarray (at' := .int) (c := 13) (ty := .int) rfl (Or.inr (Or.inr ⟨rfl, rfl⟩)) war_int (by decide) (by decide) (Nat.le_of_ble_eq_true rfl) ⟨Nat.le_of_ble_eq_true rfl, Nat.le_of_ble_eq_true rfl⟩ (by decide +kernel) ?_
  show Ev l d mi_X10_init 1037 [some (.ref 65)] [.ref 115, .ref 65] hc_288 50 5390 _
  refine Ev.blk (pc' := 1042) [(.putfield 163, 0, 10, 65), (.aload_n 0, 0, 0, 0), (.iconst 5, 0, 0, 0)] (by decide +kernel) ⟨⟨kf_10_163, Or.inr ⟨rfl, rfl, rfl⟩⟩, trivial⟩ rfl (And.intro (kc rfl rfl) (?_))
  show Ev l d mi_X10_init 1042 [some (.ref 65)] [.int 5, .ref 65] hc_289 50 5390 _
  refine Ev.newarray (at' := .int) (c := 13) (ty := .int) rfl (Or.inr (Or.inr ⟨rfl, rfl⟩)) war_int (by decide) (by decide) (Nat.le_of_ble_eq_true rfl) ⟨Nat.le_of_ble_eq_true rfl, Nat.le_of_ble_eq_true rfl⟩ (by decide +kernel) ?_
  show Ev l d mi_X10_init 1044 [some (.ref 65)] [.ref 116, .ref 65] hc_290 51 5395 _
  refine Ev.blk (pc' := 1049) [(.putfield 166, 0, 10, 66), (.aload_n 0, 0, 0, 0), (.iconst 5, 0, 0, 0)] (by decide +kernel) ⟨⟨kf_10_166, Or.inr ⟨rfl, rfl, rfl⟩⟩, trivial⟩ rfl (And.intro (kc rfl rfl) (?_))
  show Ev l d mi_X10_init 1049 [some (.ref 65)] [.int 5, .ref 65] hc_291 51 5395 _
  refine Ev.newarray (at' := .int) (c := 13) (ty := .int) rfl (Or.inr (Or.inr ⟨rfl, rfl⟩)) war_int (by decide) (by decide) (Nat.le_of_ble_eq_true rfl) ⟨Nat.le_of_ble_eq_true rfl, Nat.le_of_ble_eq_true rfl⟩ (by decide +kernel) ?_
  show Ev l d mi_X10_init 1051 [some (.ref 65)] [.ref 117, .ref 65] hc_292 52 5400 _
  refine Ev.blk (pc' := 1057) [(.putfield 169, 0, 10, 67), (.aload_n 0, 0, 0, 0), (.bipush 8, 0, 0, 0)] (by decide +kernel) ⟨⟨kf_10_169, Or.inr ⟨rfl, rfl, rfl⟩⟩, trivial⟩ rfl (And.intro (kc rfl rfl) (?_))
  show Ev l d mi_X10_init 1057 [some (.ref 65)] [.int 8, .ref 65] hc_293 52 5400 _
  refine Ev.newarray (at' := .int) (c := 13) (ty := .int) rfl (Or.inr (Or.inr ⟨rfl, rfl⟩)) war_int (by decide) (by decide) (Nat.le_of_ble_eq_true rfl) ⟨Nat.le_of_ble_eq_true rfl, Nat.le_of_ble_eq_true rfl⟩ (by decide +kernel) ?_
  show Ev l d mi_X10_init 1059 [some (.ref 65)] [.ref 118, .ref 65] hc_294 53 5408 _
  refine Ev.blk (pc' := 1065) [(.putfield 172, 0, 10, 74), (.aload_n 0, 0, 0, 0), (.bipush 25, 0, 0, 0)] (by decide +kernel) ⟨⟨kf_10_172, Or.inr ⟨rfl, rfl, rfl⟩⟩, trivial⟩ rfl (And.intro (kc rfl rfl) (?_))
  show Ev l d mi_X10_init 1065 [some (.ref 65)] [.int 25, .ref 65] hc_295 53 5408 _
  refine Ev.newlongs war_long (by decide) (by decide) (Nat.le_of_ble_eq_true rfl) ⟨Nat.le_of_ble_eq_true rfl, Nat.le_of_ble_eq_true rfl⟩ (by decide +kernel) ?_
  show Ev l d mi_X10_init 1067 [some (.ref 65)] [.ref 119, .ref 65] hc_296 54 5433 _
  refine Ev.blk (pc' := 1078) [(.putfield 175, 0, 10, 76), (.aload_n 0, 0, 0, 0), (.iconst (-1), 0, 0, 0), (.putfield 178, 0, 10, 78), (.aload_n 0, 0, 0, 0), (.bipush 48, 0, 0, 0)] (by decide +kernel) ⟨⟨kf_10_175, Or.inr ⟨rfl, rfl, rfl⟩⟩, ⟨⟨kf_10_178, Or.inl rfl⟩, trivial⟩⟩ rfl (And.intro (kc rfl rfl) (And.intro (kc rfl rfl) (?_)))
  show Ev l d mi_X10_init 1078 [some (.ref 65)] [.int 48, .ref 65] hc_297 54 5433 _
  refine Ev.newarray (at' := .int) (c := 13) (ty := .int) rfl (Or.inr (Or.inr ⟨rfl, rfl⟩)) war_int (by decide) (by decide) (Nat.le_of_ble_eq_true rfl) ⟨Nat.le_of_ble_eq_true rfl, Nat.le_of_ble_eq_true rfl⟩ (by decide +kernel) ?_
  show Ev l d mi_X10_init 1080 [some (.ref 65)] [.ref 120, .ref 65] hc_298 55 5481 _
  refine Ev.blk (pc' := 1086) [(.putfield 181, 0, 10, 81), (.aload_n 0, 0, 0, 0), (.bipush 16, 0, 0, 0)] (by decide +kernel) ⟨⟨kf_10_181, Or.inr ⟨rfl, rfl, rfl⟩⟩, trivial⟩ rfl (And.intro (kc rfl rfl) (?_))
  show Ev l d mi_X10_init 1086 [some (.ref 65)] [.int 16, .ref 65] hc_299 55 5481 _
  refine Ev.newarray (at' := .int) (c := 13) (ty := .int) rfl (Or.inr (Or.inr ⟨rfl, rfl⟩)) war_int (by decide) (by decide) (Nat.le_of_ble_eq_true rfl) ⟨Nat.le_of_ble_eq_true rfl, Nat.le_of_ble_eq_true rfl⟩ (by decide +kernel) ?_
  show Ev l d mi_X10_init 1088 [some (.ref 65)] [.ref 121, .ref 65] hc_300 56 5497 _
  refine Ev.blk (pc' := 1095) [(.putfield 184, 0, 10, 82), (.aload_n 0, 0, 0, 0), (.sipush 4500, 0, 0, 0)] (by decide +kernel) ⟨⟨kf_10_184, Or.inr ⟨rfl, rfl, rfl⟩⟩, trivial⟩ rfl (And.intro (kc rfl rfl) (?_))
  show Ev l d mi_X10_init 1095 [some (.ref 65)] [.int 4500, .ref 65] hc_301 56 5497 _
  refine Ev.newarray (at' := .int) (c := 13) (ty := .int) rfl (Or.inr (Or.inr ⟨rfl, rfl⟩)) war_int (by decide) (by decide) (Nat.le_of_ble_eq_true rfl) ⟨Nat.le_of_ble_eq_true rfl, Nat.le_of_ble_eq_true rfl⟩ (by decide +kernel) ?_
  show Ev l d mi_X10_init 1097 [some (.ref 65)] [.ref 122, .ref 65] hc_302 57 9997 _
  refine Ev.blk (pc' := 1107) [(.putfield 187, 0, 10, 83), (.aload_n 0, 0, 0, 0), (.lconst 1, 0, 0, 0), (.putfield 190, 0, 10, 86), (.aload_n 0, 0, 0, 0), (.iconst 5, 0, 0, 0)] (by decide +kernel) ⟨⟨kf_10_187, Or.inr ⟨rfl, rfl, rfl⟩⟩, ⟨⟨kf_10_190, Or.inl rfl⟩, trivial⟩⟩ rfl (And.intro (kc rfl rfl) (And.intro (kc rfl rfl) (?_)))
  show Ev l d mi_X10_init 1107 [some (.ref 65)] [.int 5, .ref 65] hc_303 57 9997 _
  refine Ev.newarray (at' := .char) (c := 12) (ty := .char) rfl (Or.inr (Or.inl ⟨rfl, rfl⟩)) war_char (by decide) (by decide) (Nat.le_of_ble_eq_true rfl) ⟨Nat.le_of_ble_eq_true rfl, Nat.le_of_ble_eq_true rfl⟩ (by decide +kernel) ?_
  show Ev l d mi_X10_init 1109 [some (.ref 65)] [.ref 123, .ref 65] hc_304 58 10002 _
  refine Ev.blk (pc' := 1139) [(.dup, 0, 0, 0), (.iconst 0, 0, 0, 0), (.bipush 102, 0, 0, 0), (.castore, 0, 0, 0), (.dup, 0, 0, 0), (.iconst 1, 0, 0, 0), (.bipush 105, 0, 0, 0), (.castore, 0, 0, 0), (.dup, 0, 0, 0), (.iconst 2, 0, 0, 0), (.bipush 114, 0, 0, 0), (.castore, 0, 0, 0), (.dup, 0, 0, 0), (.iconst 3, 0, 0, 0), (.bipush 115, 0, 0, 0), (.castore, 0, 0, 0), (.dup, 0, 0, 0), (.iconst 4, 0, 0, 0), (.bipush 116, 0, 0, 0), (.castore, 0, 0, 0), (.putfield 194, 0, 10, 87), (.aload_n 0, 0, 0, 0), (.iconst 4, 0, 0, 0)] (by decide +kernel) ⟨⟨kf_10_194, Or.inr ⟨rfl, rfl, rfl⟩⟩, trivial⟩ rfl (And.intro rfl (And.intro (kc rfl rfl) (And.intro (ib_ok rfl) (And.intro rfl (And.intro (kc rfl rfl) (And.intro (ib_ok rfl) (And.intro rfl (And.intro (kc rfl rfl) (And.intro (ib_ok rfl) (And.intro rfl (And.intro (kc rfl rfl) (And.intro (ib_ok rfl) (And.intro rfl (And.intro (kc rfl rfl) (And.intro (ib_ok rfl) (And.intro (kc rfl rfl) (?_)))))))))))))))))
  show Ev l d mi_X10_init 1139 [some (.ref 65)] [.int 4, .ref 65] hc_305 58 10002 _
  refine Ev.newarray (at' := .char) (c := 12) (ty := .char) rfl (Or.inr (Or.inl ⟨rfl, rfl⟩)) war_char (by decide) (by decide) (Nat.le_of_ble_eq_true rfl) ⟨Nat.le_of_ble_eq_true rfl, Nat.le_of_ble_eq_true rfl⟩ (by decide +kernel) ?_
  show Ev l d mi_X10_init 1141 [some (.ref 65)] [.ref 124, .ref 65] hc_306 59 10006 _
  refine Ev.blk (pc' := 1166) [(.dup, 0, 0, 0), (.iconst 0, 0, 0, 0), (.bipush 108, 0, 0, 0), (.castore, 0, 0, 0), (.dup, 0, 0, 0), (.iconst 1, 0, 0, 0), (.bipush 97, 0, 0, 0), (.castore, 0, 0, 0), (.dup, 0, 0, 0), (.iconst 2, 0, 0, 0), (.bipush 115, 0, 0, 0), (.castore, 0, 0, 0), (.dup, 0, 0, 0), (.iconst 3, 0, 0, 0), (.bipush 116, 0, 0, 0), (.castore, 0, 0, 0), (.putfield 197, 0, 10, 88), (.aload_n 0, 0, 0, 0), (.iconst 5, 0, 0, 0)] (by decide +kernel) ⟨⟨kf_10_197, Or.inr ⟨rfl, rfl, rfl⟩⟩, trivial⟩ rfl (And.intro rfl (And.intro (kc rfl rfl) (And.intro (ib_ok rfl) (And.intro rfl (And.intro (kc rfl rfl) (And.intro (ib_ok rfl) (And.intro rfl (And.intro (kc rfl rfl) (And.intro (ib_ok rfl) (And.intro rfl (And.intro (kc rfl rfl) (And.intro (ib_ok rfl) (And.intro (kc rfl rfl) (?_))))))))))))))
  show Ev l d mi_X10_init 1166 [some (.ref 65)] [.int 5, .ref 65] hc_307 59 10006 _
  refine Ev.newarray (at' := .char) (c := 12) (ty := .char) rfl (Or.inr (Or.inl ⟨rfl, rfl⟩)) war_char (by decide) (by decide) (Nat.le_of_ble_eq_true rfl) ⟨Nat.le_of_ble_eq_true rfl, Nat.le_of_ble_eq_true rfl⟩ (by decide +kernel) ?_
  show Ev l d mi_X10_init 1168 [some (.ref 65)] [.ref 125, .ref 65] hc_308 60 10011 _
  refine Ev.blk (pc' := 1198) [(.dup, 0, 0, 0), (.iconst 0, 0, 0, 0), (.bipush 111, 0, 0, 0), (.castore, 0, 0, 0), (.dup, 0, 0, 0), (.iconst 1, 0, 0, 0), (.bipush 102, 0, 0, 0), (.castore, 0, 0, 0), (.dup, 0, 0, 0), (.iconst 2, 0, 0, 0), (.bipush 116, 0, 0, 0), (.castore, 0, 0, 0), (.dup, 0, 0, 0), (.iconst 3, 0, 0, 0), (.bipush 101, 0, 0, 0), (.castore, 0, 0, 0), (.dup, 0, 0, 0), (.iconst 4, 0, 0, 0), (.bipush 110, 0, 0, 0), (.castore, 0, 0, 0), (.putfield 200, 0, 10, 89), (.aload_n 0, 0, 0, 0), (.iconst 5, 0, 0, 0)] (by decide +kernel) ⟨⟨kf_10_200, Or.inr ⟨rfl, rfl, rfl⟩⟩, trivial⟩ rfl (And.intro rfl (And.intro (kc rfl rfl) (And.intro (ib_ok rfl) (And.intro rfl (And.intro (kc rfl rfl) (And.intro (ib_ok rfl) (And.intro rfl (And.intro (kc rfl rfl) (And.intro (ib_ok rfl) (And.intro rfl (And.intro (kc rfl rfl) (And.intro (ib_ok rfl) (And.intro rfl (And.intro (kc rfl rfl) (And.intro (ib_ok rfl) (And.intro (kc rfl rfl) (?_)))))))))))))))))
  show Ev l d mi_X10_init 1198 [some (.ref 65)] [.int 5, .ref 65] hc_309 60 10011 _
  refine Ev.newarray (at' := .char) (c := 12) (ty := .char) rfl (Or.inr (Or.inl ⟨rfl, rfl⟩)) war_char (by decide) (by decide) (Nat.le_of_ble_eq_true rfl) ⟨Nat.le_of_ble_eq_true rfl, Nat.le_of_ble_eq_true rfl⟩ (by decide +kernel) ?_
  show Ev l d mi_X10_init 1200 [some (.ref 65)] [.ref 126, .ref 65] hc_310 61 10016 _
  refine Ev.blk (pc' := 1230) [(.dup, 0, 0, 0), (.iconst 0, 0, 0, 0), (.bipush 116, 0, 0, 0), (.castore, 0, 0, 0), (.dup, 0, 0, 0), (.iconst 1, 0, 0, 0), (.bipush 111, 0, 0, 0), (.castore, 0, 0, 0), (.dup, 0, 0, 0), (.iconst 2, 0, 0, 0), (.bipush 116, 0, 0, 0), (.castore, 0, 0, 0), (.dup, 0, 0, 0), (.iconst 3, 0, 0, 0), (.bipush 97, 0, 0, 0), (.castore, 0, 0, 0), (.dup, 0, 0, 0), (.iconst 4, 0, 0, 0), (.bipush 108, 0, 0, 0), (.castore, 0, 0, 0), (.putfield 203, 0, 10, 90), (.aload_n 0, 0, 0, 0), (.iconst 4, 0, 0, 0)] (by decide +kernel) ⟨⟨kf_10_203, Or.inr ⟨rfl, rfl, rfl⟩⟩, trivial⟩ rfl (And.intro rfl (And.intro (kc rfl rfl) (And.intro (ib_ok rfl) (And.intro rfl (And.intro (kc rfl rfl) (And.intro (ib_ok rfl) (And.intro rfl (And.intro (kc rfl rfl) (And.intro (ib_ok rfl) (And.intro rfl (And.intro (kc rfl rfl) (And.intro (ib_ok rfl) (And.intro rfl (And.intro (kc rfl rfl) (And.intro (ib_ok rfl) (And.intro (kc rfl rfl) (?_)))))))))))))))))
  show Ev l d mi_X10_init 1230 [some (.ref 65)] [.int 4, .ref 65] hc_311 61 10016 _
  refine Ev.newarray (at' := .char) (c := 12) (ty := .char) rfl (Or.inr (Or.inl ⟨rfl, rfl⟩)) war_char (by decide) (by decide) (Nat.le_of_ble_eq_true rfl) ⟨Nat.le_of_ble_eq_true rfl, Nat.le_of_ble_eq_true rfl⟩ (by decide +kernel) ?_
  show Ev l d mi_X10_init 1232 [some (.ref 65)] [.ref 127, .ref 65] hc_312 62 10020 _
  refine Ev.blk (pc' := 1257) [(.dup, 0, 0, 0), (.iconst 0, 0, 0, 0), (.bipush 109, 0, 0, 0), (.castore, 0, 0, 0), (.dup, 0, 0, 0), (.iconst 1, 0, 0, 0), (.bipush 111, 0, 0, 0), (.castore, 0, 0, 0), (.dup, 0, 0, 0), (.iconst 2, 0, 0, 0), (.bipush 115, 0, 0, 0), (.castore, 0, 0, 0), (.dup, 0, 0, 0), (.iconst 3, 0, 0, 0), (.bipush 116, 0, 0, 0), (.castore, 0, 0, 0), (.putfield 206, 0, 10, 91), (.aload_n 0, 0, 0, 0), (.iconst 5, 0, 0, 0)] (by decide +kernel) ⟨⟨kf_10_206, Or.inr ⟨rfl, rfl, rfl⟩⟩, trivial⟩ rfl (And.intro rfl (And.intro (kc rfl rfl) (And.intro (ib_ok rfl) (And.intro rfl (And.intro (kc rfl rfl) (And.intro (ib_ok rfl) (And.intro rfl (And.intro (kc rfl rfl) (And.intro (ib_ok rfl) (And.intro rfl (And.intro (kc rfl rfl) (And.intro (ib_ok rfl) (And.intro (kc rfl rfl) (?_))))))))))))))
  show Ev l d mi_X10_init 1257 [some (.ref 65)] [.int 5, .ref 65] hc_313 62 10020 _
  refine Ev.newarray (at' := .char) (c := 12) (ty := .char) rfl (Or.inr (Or.inl ⟨rfl, rfl⟩)) war_char (by decide) (by decide) (Nat.le_of_ble_eq_true rfl) ⟨Nat.le_of_ble_eq_true rfl, Nat.le_of_ble_eq_true rfl⟩ (by decide +kernel) ?_
  show Ev l d mi_X10_init 1259 [some (.ref 65)] [.ref 128, .ref 65] hc_314 63 10025 _
  refine Ev.blk (pc' := 1289) [(.dup, 0, 0, 0), (.iconst 0, 0, 0, 0), (.bipush 108, 0, 0, 0), (.castore, 0, 0, 0), (.dup, 0, 0, 0), (.iconst 1, 0, 0, 0), (.bipush 101, 0, 0, 0), (.castore, 0, 0, 0), (.dup, 0, 0, 0), (.iconst 2, 0, 0, 0), (.bipush 97, 0, 0, 0), (.castore, 0, 0, 0), (.dup, 0, 0, 0), (.iconst 3, 0, 0, 0), (.bipush 115, 0, 0, 0), (.castore, 0, 0, 0), (.dup, 0, 0, 0), (.iconst 4, 0, 0, 0), (.bipush 116, 0, 0, 0), (.castore, 0, 0, 0), (.putfield 209, 0, 10, 92), (.aload_n 0, 0, 0, 0), (.iconst 3, 0, 0, 0)] (by decide +kernel) ⟨⟨kf_10_209, Or.inr ⟨rfl, rfl, rfl⟩⟩, trivial⟩ rfl (And.intro rfl (And.intro (kc rfl rfl) (And.intro (ib_ok rfl) (And.intro rfl (And.intro (kc rfl rfl) (And.intro (ib_ok rfl) (And.intro rfl (And.intro (kc rfl rfl) (And.intro (ib_ok rfl) (And.intro rfl (And.intro (kc rfl rfl) (And.intro (ib_ok rfl) (And.intro rfl (And.intro (kc rfl rfl) (And.intro (ib_ok rfl) (And.intro (kc rfl rfl) (?_)))))))))))))))))
  show Ev l d mi_X10_init 1289 [some (.ref 65)] [.int 3, .ref 65] hc_315 63 10025 _
  refine Ev.newarray (at' := .char) (c := 12) (ty := .char) rfl (Or.inr (Or.inl ⟨rfl, rfl⟩)) war_char (by decide) (by decide) (Nat.le_of_ble_eq_true rfl) ⟨Nat.le_of_ble_eq_true rfl, Nat.le_of_ble_eq_true rfl⟩ (by decide +kernel) ?_
  show Ev l d mi_X10_init 1291 [some (.ref 65)] [.ref 129, .ref 65] hc_316 64 10028 _
  refine Ev.blk (pc' := 1311) [(.dup, 0, 0, 0), (.iconst 0, 0, 0, 0), (.bipush 110, 0, 0, 0), (.castore, 0, 0, 0), (.dup, 0, 0, 0), (.iconst 1, 0, 0, 0), (.bipush 111, 0, 0, 0), (.castore, 0, 0, 0), (.dup, 0, 0, 0), (.iconst 2, 0, 0, 0), (.bipush 116, 0, 0, 0), (.castore, 0, 0, 0), (.putfield 212, 0, 10, 93), (.aload_n 0, 0, 0, 0), (.iconst 3, 0, 0, 0)] (by decide +kernel) ⟨⟨kf_10_212, Or.inr ⟨rfl, rfl, rfl⟩⟩, trivial⟩ rfl (And.intro rfl (And.intro (kc rfl rfl) (And.intro (ib_ok rfl) (And.intro rfl (And.intro (kc rfl rfl) (And.intro (ib_ok rfl) (And.intro rfl (And.intro (kc rfl rfl) (And.intro (ib_ok rfl) (And.intro (kc rfl rfl) (?_)))))))))))
  show Ev l d mi_X10_init 1311 [some (.ref 65)] [.int 3, .ref 65] hc_317 64 10028 _
  refine Ev.newarray (at' := .char) (c := 12) (ty := .char) rfl (Or.inr (Or.inl ⟨rfl, rfl⟩)) war_char (by decide) (by decide) (Nat.le_of_ble_eq_true rfl) ⟨Nat.le_of_ble_eq_true rfl, Nat.le_of_ble_eq_true rfl⟩ (by decide +kernel) ?_
  show Ev l d mi_X10_init 1313 [some (.ref 65)] [.ref 130, .ref 65] hc_318 65 10031 _
  refine Ev.blk (pc' := 1333) [(.dup, 0, 0, 0), (.iconst 0, 0, 0, 0), (.bipush 97, 0, 0, 0), (.castore, 0, 0, 0), (.dup, 0, 0, 0), (.iconst 1, 0, 0, 0), (.bipush 110, 0, 0, 0), (.castore, 0, 0, 0), (.dup, 0, 0, 0), (.iconst 2, 0, 0, 0), (.bipush 100, 0, 0, 0), (.castore, 0, 0, 0), (.putfield 215, 0, 10, 94), (.aload_n 0, 0, 0, 0), (.iconst 2, 0, 0, 0)] (by decide +kernel) ⟨⟨kf_10_215, Or.inr ⟨rfl, rfl, rfl⟩⟩, trivial⟩ rfl (And.intro rfl (And.intro (kc rfl rfl) (And.intro (ib_ok rfl) (And.intro rfl (And.intro (kc rfl rfl) (And.intro (ib_ok rfl) (And.intro rfl (And.intro (kc rfl rfl) (And.intro (ib_ok rfl) (And.intro (kc rfl rfl) (?_)))))))))))
  show Ev l d mi_X10_init 1333 [some (.ref 65)] [.int 2, .ref 65] hc_319 65 10031 _
  refine Ev.newarray (at' := .char) (c := 12) (ty := .char) rfl (Or.inr (Or.inl ⟨rfl, rfl⟩)) war_char (by decide) (by decide) (Nat.le_of_ble_eq_true rfl) ⟨Nat.le_of_ble_eq_true rfl, Nat.le_of_ble_eq_true rfl⟩ (by decide +kernel) ?_
  show Ev l d mi_X10_init 1335 [some (.ref 65)] [.ref 131, .ref 65] hc_320 66 10033 _
  refine Ev.blk (pc' := 1350) [(.dup, 0, 0, 0), (.iconst 0, 0, 0, 0), (.bipush 111, 0, 0, 0), (.castore, 0, 0, 0), (.dup, 0, 0, 0), (.iconst 1, 0, 0, 0), (.bipush 114, 0, 0, 0), (.castore, 0, 0, 0), (.putfield 218, 0, 10, 95), (.aload_n 0, 0, 0, 0), (.iconst 3, 0, 0, 0)] (by decide +kernel) ⟨⟨kf_10_218, Or.inr ⟨rfl, rfl, rfl⟩⟩, trivial⟩ rfl (And.intro rfl (And.intro (kc rfl rfl) (And.intro (ib_ok rfl) (And.intro rfl (And.intro (kc rfl rfl) (And.intro (ib_ok rfl) (And.intro (kc rfl rfl) (?_))))))))
  show Ev l d mi_X10_init 1350 [some (.ref 65)] [.int 3, .ref 65] hc_321 66 10033 _
  refine Ev.newarray (at' := .char) (c := 12) (ty := .char) rfl (Or.inr (Or.inl ⟨rfl, rfl⟩)) war_char (by decide) (by decide) (Nat.le_of_ble_eq_true rfl) ⟨Nat.le_of_ble_eq_true rfl, Nat.le_of_ble_eq_true rfl⟩ (by decide +kernel) ?_
  show Ev l d mi_X10_init 1352 [some (.ref 65)] [.ref 132, .ref 65] hc_322 67 10036 _
  refine Ev.blk (pc' := 1372) [(.dup, 0, 0, 0), (.iconst 0, 0, 0, 0), (.bipush 97, 0, 0, 0), (.castore, 0, 0, 0), (.dup, 0, 0, 0), (.iconst 1, 0, 0, 0), (.bipush 108, 0, 0, 0), (.castore, 0, 0, 0), (.dup, 0, 0, 0), (.iconst 2, 0, 0, 0), (.bipush 108, 0, 0, 0), (.castore, 0, 0, 0), (.putfield 221, 0, 10, 96), (.aload_n 0, 0, 0, 0), (.iconst 3, 0, 0, 0)] (by decide +kernel) ⟨⟨kf_10_221, Or.inr ⟨rfl, rfl, rfl⟩⟩, trivial⟩ rfl (And.intro rfl (And.intro (kc rfl rfl) (And.intro (ib_ok rfl) (And.intro rfl (And.intro (kc rfl rfl) (And.intro (ib_ok rfl) (And.intro rfl (And.intro (kc rfl rfl) (And.intro (ib_ok rfl) (And.intro (kc rfl rfl) (?_)))))))))))
  show Ev l d mi_X10_init 1372 [some (.ref 65)] [.int 3, .ref 65] hc_323 67 10036 _
  refine Ev.newarray (at' := .char) (c := 12) (ty := .char) rfl (Or.inr (Or.inl ⟨rfl, rfl⟩)) war_char (by decide) (by decide) (Nat.le_of_ble_eq_true rfl) ⟨Nat.le_of_ble_eq_true rfl, Nat.le_of_ble_eq_true rfl⟩ (by decide +kernel) ?_
  show Ev l d mi_X10_init 1374 [some (.ref 65)] [.ref 133, .ref 65] hc_324 68 10039 _
  refine Ev.blk (pc' := 1394) [(.dup, 0, 0, 0), (.iconst 0, 0, 0, 0), (.bipush 109, 0, 0, 0), (.castore, 0, 0, 0), (.dup, 0, 0, 0), (.iconst 1, 0, 0, 0), (.bipush 105, 0, 0, 0), (.castore, 0, 0, 0), (.dup, 0, 0, 0), (.iconst 2, 0, 0, 0), (.bipush 110, 0, 0, 0), (.castore, 0, 0, 0), (.putfield 224, 0, 10, 97), (.aload_n 0, 0, 0, 0), (.iconst 3, 0, 0, 0)] (by decide +kernel) ⟨⟨kf_10_224, Or.inr ⟨rfl, rfl, rfl⟩⟩, trivial⟩ rfl (And.intro rfl (And.intro (kc rfl rfl) (And.intro (ib_ok rfl) (And.intro rfl (And.intro (kc rfl rfl) (And.intro (ib_ok rfl) (And.intro rfl (And.intro (kc rfl rfl) (And.intro (ib_ok rfl) (And.intro (kc rfl rfl) (?_)))))))))))
  show Ev l d mi_X10_init 1394 [some (.ref 65)] [.int 3, .ref 65] hc_325 68 10039 _
  refine Ev.newarray (at' := .char) (c := 12) (ty := .char) rfl (Or.inr (Or.inl ⟨rfl, rfl⟩)) war_char (by decide) (by decide) (Nat.le_of_ble_eq_true rfl) ⟨Nat.le_of_ble_eq_true rfl, Nat.le_of_ble_eq_true rfl⟩ (by decide +kernel) ?_
  show Ev l d mi_X10_init 1396 [some (.ref 65)] [.ref 134, .ref 65] hc_326 69 10042 _
  refine Ev.blk (pc' := 1416) [(.dup, 0, 0, 0), (.iconst 0, 0, 0, 0), (.bipush 109, 0, 0, 0), (.castore, 0, 0, 0), (.dup, 0, 0, 0), (.iconst 1, 0, 0, 0), (.bipush 97, 0, 0, 0), (.castore, 0, 0, 0), (.dup, 0, 0, 0), (.iconst 2, 0, 0, 0), (.bipush 120, 0, 0, 0), (.castore, 0, 0, 0), (.putfield 227, 0, 10, 98), (.aload_n 0, 0, 0, 0), (.iconst 5, 0, 0, 0)] (by decide +kernel) ⟨⟨kf_10_227, Or.inr ⟨rfl, rfl, rfl⟩⟩, trivial⟩ rfl (And.intro rfl (And.intro (kc rfl rfl) (And.intro (ib_ok rfl) (And.intro rfl (And.intro (kc rfl rfl) (And.intro (ib_ok rfl) (And.intro rfl (And.intro (kc rfl rfl) (And.intro (ib_ok rfl) (And.intro (kc rfl rfl) (?_)))))))))))
  show Ev l d mi_X10_init 1416 [some (.ref 65)] [.int 5, .ref 65] hc_327 69 10042 _
  refine Ev.newarray (at' := .char) (c := 12) (ty := .char) rfl (Or.inr (Or.inl ⟨rfl, rfl⟩)) war_char (by decide) (by decide) (Nat.le_of_ble_eq_true rfl) ⟨Nat.le_of_ble_eq_true rfl, Nat.le_of_ble_eq_true rfl⟩ (by decide +kernel) ?_
  show Ev l d mi_X10_init 1418 [some (.ref 65)] [.ref 135, .ref 65] hc_328 70 10047 _
  refine Ev.blk (pc' := 1448) [(.dup, 0, 0, 0), (.iconst 0, 0, 0, 0), (.bipush 116, 0, 0, 0), (.castore, 0, 0, 0), (.dup, 0, 0, 0), (.iconst 1, 0, 0, 0), (.bipush 97, 0, 0, 0), (.castore, 0, 0, 0), (.dup, 0, 0, 0), (.iconst 2, 0, 0, 0), (.bipush 107, 0, 0, 0), (.castore, 0, 0, 0), (.dup, 0, 0, 0), (.iconst 3, 0, 0, 0), (.bipush 101, 0, 0, 0), (.castore, 0, 0, 0), (.dup, 0, 0, 0), (.iconst 4, 0, 0, 0), (.bipush 110, 0, 0, 0), (.castore, 0, 0, 0), (.putfield 230, 0, 10, 99), (.aload_n 0, 0, 0, 0), (.iconst 5, 0, 0, 0)] (by decide +kernel) ⟨⟨kf_10_230, Or.inr ⟨rfl, rfl, rfl⟩⟩, trivial⟩ rfl (And.intro rfl (And.intro (kc rfl rfl) (And.intro (ib_ok rfl) (And.intro rfl (And.intro (kc rfl rfl) (And.intro (ib_ok rfl) (And.intro rfl (And.intro (kc rfl rfl) (And.intro (ib_ok rfl) (And.intro rfl (And.intro (kc rfl rfl) (And.intro (ib_ok rfl) (And.intro rfl (And.intro (kc rfl rfl) (And.intro (ib_ok rfl) (And.intro (kc rfl rfl) (?_)))))))))))))))))
  show Ev l d mi_X10_init 1448 [some (.ref 65)] [.int 5, .ref 65] hc_329 70 10047 _
  refine Ev.newarray (at' := .char) (c := 12) (ty := .char) rfl (Or.inr (Or.inl ⟨rfl, rfl⟩)) war_char (by decide) (by decide) (Nat.le_of_ble_eq_true rfl) ⟨Nat.le_of_ble_eq_true rfl, Nat.le_of_ble_eq_true rfl⟩ (by decide +kernel) ?_
  show Ev l d mi_X10_init 1450 [some (.ref 65)] [.ref 136, .ref 65] hc_330 71 10052 _
  refine Ev.blk (pc' := 1480) [(.dup, 0, 0, 0), (.iconst 0, 0, 0, 0), (.bipush 99, 0, 0, 0), (.castore, 0, 0, 0), (.dup, 0, 0, 0), (.iconst 1, 0, 0, 0), (.bipush 104, 0, 0, 0), (.castore, 0, 0, 0), (.dup, 0, 0, 0), (.iconst 2, 0, 0, 0), (.bipush 101, 0, 0, 0), (.castore, 0, 0, 0), (.dup, 0, 0, 0), (.iconst 3, 0, 0, 0), (.bipush 99, 0, 0, 0), (.castore, 0, 0, 0), (.dup, 0, 0, 0), (.iconst 4, 0, 0, 0), (.bipush 107, 0, 0, 0), (.castore, 0, 0, 0), (.putfield 233, 0, 10, 100), (.aload_n 0, 0, 0, 0), (.iconst 3, 0, 0, 0)] (by decide +kernel) ⟨⟨kf_10_233, Or.inr ⟨rfl, rfl, rfl⟩⟩, trivial⟩ rfl (And.intro rfl (And.intro (kc rfl rfl) (And.intro (ib_ok rfl) (And.intro rfl (And.intro (kc rfl rfl) (And.intro (ib_ok rfl) (And.intro rfl (And.intro (kc rfl rfl) (And.intro (ib_ok rfl) (And.intro rfl (And.intro (kc rfl rfl) (And.intro (ib_ok rfl) (And.intro rfl (And.intro (kc rfl rfl) (And.intro (ib_ok rfl) (And.intro (kc rfl rfl) (?_)))))))))))))))))
  show Ev l d mi_X10_init 1480 [some (.ref 65)] [.int 3, .ref 65] hc_331 71 10052 _
  refine Ev.newarray (at' := .char) (c := 12) (ty := .char) rfl (Or.inr (Or.inl ⟨rfl, rfl⟩)) war_char (by decide) (by decide) (Nat.le_of_ble_eq_true rfl) ⟨Nat.le_of_ble_eq_true rfl, Nat.le_of_ble_eq_true rfl⟩ (by decide +kernel) ?_
  show Ev l d mi_X10_init 1482 [some (.ref 65)] [.ref 137, .ref 65] hc_332 72 10055 _
  refine Ev.blk (pc' := 1502) [(.dup, 0, 0, 0), (.iconst 0, 0, 0, 0), (.bipush 111, 0, 0, 0), (.castore, 0, 0, 0), (.dup, 0, 0, 0), (.iconst 1, 0, 0, 0), (.bipush 102, 0, 0, 0), (.castore, 0, 0, 0), (.dup, 0, 0, 0), (.iconst 2, 0, 0, 0), (.bipush 102, 0, 0, 0), (.castore, 0, 0, 0), (.putfield 236, 0, 10, 101), (.aload_n 0, 0, 0, 0), (.iconst 3, 0, 0, 0)] (by decide +kernel) ⟨⟨kf_10_236, Or.inr ⟨rfl, rfl, rfl⟩⟩, trivial⟩ rfl (And.intro rfl (And.intro (kc rfl rfl) (And.intro (ib_ok rfl) (And.intro rfl (And.intro (kc rfl rfl) (And.intro (ib_ok rfl) (And.intro rfl (And.intro (kc rfl rfl) (And.intro (ib_ok rfl) (And.intro (kc rfl rfl) (?_)))))))))))
  show Ev l d mi_X10_init 1502 [some (.ref 65)] [.int 3, .ref 65] hc_333 72 10055 _
  refine Ev.newarray (at' := .char) (c := 12) (ty := .char) rfl (Or.inr (Or.inl ⟨rfl, rfl⟩)) war_char (by decide) (by decide) (Nat.le_of_ble_eq_true rfl) ⟨Nat.le_of_ble_eq_true rfl, Nat.le_of_ble_eq_true rfl⟩ (by decide +kernel) ?_
  show Ev l d mi_X10_init 1504 [some (.ref 65)] [.ref 138, .ref 65] hc_334 73 10058 _
  refine Ev.blk (pc' := 1525) [(.dup, 0, 0, 0), (.iconst 0, 0, 0, 0), (.bipush 100, 0, 0, 0), (.castore, 0, 0, 0), (.dup, 0, 0, 0), (.iconst 1, 0, 0, 0), (.bipush 97, 0, 0, 0), (.castore, 0, 0, 0), (.dup, 0, 0, 0), (.iconst 2, 0, 0, 0), (.bipush 121, 0, 0, 0), (.castore, 0, 0, 0), (.putfield 239, 0, 10, 102), (.aload_n 0, 0, 0, 0), (.bipush 6, 0, 0, 0)] (by decide +kernel) ⟨⟨kf_10_239, Or.inr ⟨rfl, rfl, rfl⟩⟩, trivial⟩ rfl (And.intro rfl (And.intro (kc rfl rfl) (And.intro (ib_ok rfl) (And.intro rfl (And.intro (kc rfl rfl) (And.intro (ib_ok rfl) (And.intro rfl (And.intro (kc rfl rfl) (And.intro (ib_ok rfl) (And.intro (kc rfl rfl) (?_)))))))))))
  show Ev l d mi_X10_init 1525 [some (.ref 65)] [.int 6, .ref 65] hc_335 73 10058 _
  refine Ev.newarray (at' := .char) (c := 12) (ty := .char) rfl (Or.inr (Or.inl ⟨rfl, rfl⟩)) war_char (by decide) (by decide) (Nat.le_of_ble_eq_true rfl) ⟨Nat.le_of_ble_eq_true rfl, Nat.le_of_ble_eq_true rfl⟩ (by decide +kernel) ?_
  show Ev l d mi_X10_init 1527 [some (.ref 65)] [.ref 139, .ref 65] hc_336 74 10064 _
  refine Ev.blk (pc' := 1563) [(.dup, 0, 0, 0), (.iconst 0, 0, 0, 0), (.bipush 110, 0, 0, 0), (.castore, 0, 0, 0), (.dup, 0, 0, 0), (.iconst 1, 0, 0, 0), (.bipush 117, 0, 0, 0), (.castore, 0, 0, 0), (.dup, 0, 0, 0), (.iconst 2, 0, 0, 0), (.bipush 109, 0, 0, 0), (.castore, 0, 0, 0), (.dup, 0, 0, 0), (.iconst 3, 0, 0, 0), (.bipush 98, 0, 0, 0), (.castore, 0, 0, 0), (.dup, 0, 0, 0), (.iconst 4, 0, 0, 0), (.bipush 101, 0, 0, 0), (.castore, 0, 0, 0), (.dup, 0, 0, 0), (.iconst 5, 0, 0, 0), (.bipush 114, 0, 0, 0), (.castore, 0, 0, 0), (.putfield 242, 0, 10, 103), (.aload_n 0, 0, 0, 0), (.bipush 6, 0, 0, 0)] (by decide +kernel) ⟨⟨kf_10_242, Or.inr ⟨rfl, rfl, rfl⟩⟩, trivial⟩ rfl (And.intro rfl (And.intro (kc rfl rfl) (And.intro (ib_ok rfl) (And.intro rfl (And.intro (kc rfl rfl) (And.intro (ib_ok rfl) (And.intro rfl (And.intro (kc rfl rfl) (And.intro (ib_ok rfl) (And.intro rfl (And.intro (kc rfl rfl) (And.intro (ib_ok rfl) (And.intro rfl (And.intro (kc rfl rfl) (And.intro (ib_ok rfl) (And.intro rfl (And.intro (kc rfl rfl) (And.intro (ib_ok rfl) (And.intro (kc rfl rfl) (?_))))))))))))))))))))
  show Ev l d mi_X10_init 1563 [some (.ref 65)] [.int 6, .ref 65] hc_337 74 10064 _
  refine Ev.newarray (at' := .char) (c := 12) (ty := .char) rfl (Or.inr (Or.inl ⟨rfl, rfl⟩)) war_char (by decide) (by decide) (Nat.le_of_ble_eq_true rfl) ⟨Nat.le_of_ble_eq_true rfl, Nat.le_of_ble_eq_true rfl⟩ (by decide +kernel) ?_
  show Ev l d mi_X10_init 1565 [some (.ref 65)] [.ref 140, .ref 65] hc_338 75 10070 _
  refine Ev.blk (pc' := 1600) [(.dup, 0, 0, 0), (.iconst 0, 0, 0, 0), (.bipush 99, 0, 0, 0), (.castore, 0, 0, 0), (.dup, 0, 0, 0), (.iconst 1, 0, 0, 0), (.bipush 111, 0, 0, 0), (.castore, 0, 0, 0), (.dup, 0, 0, 0), (.iconst 2, 0, 0, 0), (.bipush 108, 0, 0, 0), (.castore, 0, 0, 0), (.dup, 0, 0, 0), (.iconst 3, 0, 0, 0), (.bipush 117, 0, 0, 0), (.castore, 0, 0, 0), (.dup, 0, 0, 0), (.iconst 4, 0, 0, 0), (.bipush 109, 0, 0, 0), (.castore, 0, 0, 0), (.dup, 0, 0, 0), (.iconst 5, 0, 0, 0), (.bipush 110, 0, 0, 0), (.castore, 0, 0, 0), (.putfield 245, 0, 10, 104), (.aload_n 0, 0, 0, 0), (.iconst 3, 0, 0, 0)] (by decide +kernel) ⟨⟨kf_10_245, Or.inr ⟨rfl, rfl, rfl⟩⟩, trivial⟩ rfl (And.intro rfl (And.intro (kc rfl rfl) (And.intro (ib_ok rfl) (And.intro rfl (And.intro (kc rfl rfl) (And.intro (ib_ok rfl) (And.intro rfl (And.intro (kc rfl rfl) (And.intro (ib_ok rfl) (And.intro rfl (And.intro (kc rfl rfl) (And.intro (ib_ok rfl) (And.intro rfl (And.intro (kc rfl rfl) (And.intro (ib_ok rfl) (And.intro rfl (And.intro (kc rfl rfl) (And.intro (ib_ok rfl) (And.intro (kc rfl rfl) (?_))))))))))))))))))))
  show Ev l d mi_X10_init 1600 [some (.ref 65)] [.int 3, .ref 65] hc_339 75 10070 _
  refine Ev.newarray (at' := .char) (c := 12) (ty := .char) rfl (Or.inr (Or.inl ⟨rfl, rfl⟩)) war_char (by decide) (by decide) (Nat.le_of_ble_eq_true rfl) ⟨Nat.le_of_ble_eq_true rfl, Nat.le_of_ble_eq_true rfl⟩ (by decide +kernel) ?_
  show Ev l d mi_X10_init 1602 [some (.ref 65)] [.ref 141, .ref 65] hc_340 76 10073 _
  refine Ev.blk (pc' := 1622) [(.dup, 0, 0, 0), (.iconst 0, 0, 0, 0), (.bipush 114, 0, 0, 0), (.castore, 0, 0, 0), (.dup, 0, 0, 0), (.iconst 1, 0, 0, 0), (.bipush 111, 0, 0, 0), (.castore, 0, 0, 0), (.dup, 0, 0, 0), (.iconst 2, 0, 0, 0), (.bipush 119, 0, 0, 0), (.castore, 0, 0, 0), (.putfield 248, 0, 10, 105), (.aload_n 0, 0, 0, 0), (.iconst 4, 0, 0, 0)] (by decide +kernel) ⟨⟨kf_10_248, Or.inr ⟨rfl, rfl, rfl⟩⟩, trivial⟩ rfl (And.intro rfl (And.intro (kc rfl rfl) (And.intro (ib_ok rfl) (And.intro rfl (And.intro (kc rfl rfl) (And.intro (ib_ok rfl) (And.intro rfl (And.intro (kc rfl rfl) (And.intro (ib_ok rfl) (And.intro (kc rfl rfl) (?_)))))))))))
  show Ev l d mi_X10_init 1622 [some (.ref 65)] [.int 4, .ref 65] hc_341 76 10073 _
  refine Ev.newarray (at' := .char) (c := 12) (ty := .char) rfl (Or.inr (Or.inl ⟨rfl, rfl⟩)) war_char (by decide) (by decide) (Nat.le_of_ble_eq_true rfl) ⟨Nat.le_of_ble_eq_true rfl, Nat.le_of_ble_eq_true rfl⟩ (by decide +kernel) ?_
  show Ev l d mi_X10_init 1624 [some (.ref 65)] [.ref 142, .ref 65] hc_342 77 10077 _
  refine Ev.blk (pc' := 1649) [(.dup, 0, 0, 0), (.iconst 0, 0, 0, 0), (.bipush 115, 0, 0, 0), (.castore, 0, 0, 0), (.dup, 0, 0, 0), (.iconst 1, 0, 0, 0), (.bipush 105, 0, 0, 0), (.castore, 0, 0, 0), (.dup, 0, 0, 0), (.iconst 2, 0, 0, 0), (.bipush 100, 0, 0, 0), (.castore, 0, 0, 0), (.dup, 0, 0, 0), (.iconst 3, 0, 0, 0), (.bipush 101, 0, 0, 0), (.castore, 0, 0, 0), (.putfield 251, 0, 10, 106), (.aload_n 0, 0, 0, 0), (.iconst 5, 0, 0, 0)] (by decide +kernel) ⟨⟨kf_10_251, Or.inr ⟨rfl, rfl, rfl⟩⟩, trivial⟩ rfl (And.intro rfl (And.intro (kc rfl rfl) (And.intro (ib_ok rfl) (And.intro rfl (And.intro (kc rfl rfl) (And.intro (ib_ok rfl) (And.intro rfl (And.intro (kc rfl rfl) (And.intro (ib_ok rfl) (And.intro rfl (And.intro (kc rfl rfl) (And.intro (ib_ok rfl) (And.intro (kc rfl rfl) (?_))))))))))))))
  show Ev l d mi_X10_init 1649 [some (.ref 65)] [.int 5, .ref 65] hc_343 77 10077 _
  refine Ev.newarray (at' := .char) (c := 12) (ty := .char) rfl (Or.inr (Or.inl ⟨rfl, rfl⟩)) war_char (by decide) (by decide) (Nat.le_of_ble_eq_true rfl) ⟨Nat.le_of_ble_eq_true rfl, Nat.le_of_ble_eq_true rfl⟩ (by decide +kernel) ?_
  show Ev l d mi_X10_init 1651 [some (.ref 65)] [.ref 143, .ref 65] hc_344 78 10082 _
  refine Ev.blk (pc' := 1681) [(.dup, 0, 0, 0), (.iconst 0, 0, 0, 0), (.bipush 119, 0, 0, 0), (.castore, 0, 0, 0), (.dup, 0, 0, 0), (.iconst 1, 0, 0, 0), (.bipush 111, 0, 0, 0), (.castore, 0, 0, 0), (.dup, 0, 0, 0), (.iconst 2, 0, 0, 0), (.bipush 114, 0, 0, 0), (.castore, 0, 0, 0), (.dup, 0, 0, 0), (.iconst 3, 0, 0, 0), (.bipush 116, 0, 0, 0), (.castore, 0, 0, 0), (.dup, 0, 0, 0), (.iconst 4, 0, 0, 0), (.bipush 104, 0, 0, 0), (.castore, 0, 0, 0), (.putfield 254, 0, 10, 107), (.aload_n 0, 0, 0, 0), (.iconst 5, 0, 0, 0)] (by decide +kernel) ⟨⟨kf_10_254, Or.inr ⟨rfl, rfl, rfl⟩⟩, trivial⟩ rfl (And.intro rfl (And.intro (kc rfl rfl) (And.intro (ib_ok rfl) (And.intro rfl (And.intro (kc rfl rfl) (And.intro (ib_ok rfl) (And.intro rfl (And.intro (kc rfl rfl) (And.intro (ib_ok rfl) (And.intro rfl (And.intro (kc rfl rfl) (And.intro (ib_ok rfl) (And.intro rfl (And.intro (kc rfl rfl) (And.intro (ib_ok rfl) (And.intro (kc rfl rfl) (?_)))))))))))))))))
  show Ev l d mi_X10_init 1681 [some (.ref 65)] [.int 5, .ref 65] hc_345 78 10082 _
  refine Ev.newarray (at' := .char) (c := 12) (ty := .char) rfl (Or.inr (Or.inl ⟨rfl, rfl⟩)) war_char (by decide) (by decide) (Nat.le_of_ble_eq_true rfl) ⟨Nat.le_of_ble_eq_true rfl, Nat.le_of_ble_eq_true rfl⟩ (by decide +kernel) ?_
  show Ev l d mi_X10_init 1683 [some (.ref 65)] [.ref 144, .ref 65] hc_346 79 10087 _
  refine Ev.blk (pc' := 1713) [(.dup, 0, 0, 0), (.iconst 0, 0, 0, 0), (.bipush 114, 0, 0, 0), (.castore, 0, 0, 0), (.dup, 0, 0, 0), (.iconst 1, 0, 0, 0), (.bipush 101, 0, 0, 0), (.castore, 0, 0, 0), (.dup, 0, 0, 0), (.iconst 2, 0, 0, 0), (.bipush 97, 0, 0, 0), (.castore, 0, 0, 0), (.dup, 0, 0, 0), (.iconst 3, 0, 0, 0), (.bipush 99, 0, 0, 0), (.castore, 0, 0, 0), (.dup, 0, 0, 0), (.iconst 4, 0, 0, 0), (.bipush 104, 0, 0, 0), (.castore, 0, 0, 0), (.putfield 257, 0, 10, 108), (.aload_n 0, 0, 0, 0), (.iconst 5, 0, 0, 0)] (by decide +kernel) ⟨⟨kf_10_257, Or.inr ⟨rfl, rfl, rfl⟩⟩, trivial⟩ rfl (And.intro rfl (And.intro (kc rfl rfl) (And.intro (ib_ok rfl) (And.intro rfl (And.intro (kc rfl rfl) (And.intro (ib_ok rfl) (And.intro rfl (And.intro (kc rfl rfl) (And.intro (ib_ok rfl) (And.intro rfl (And.intro (kc rfl rfl) (And.intro (ib_ok rfl) (And.intro rfl (And.intro (kc rfl rfl) (And.intro (ib_ok rfl) (And.intro (kc rfl rfl) (?_)))))))))))))))))
  show Ev l d mi_X10_init 1713 [some (.ref 65)] [.int 5, .ref 65] hc_347 79 10087 _
  refine Ev.newarray (at' := .char) (c := 12) (ty := .char) rfl (Or.inr (Or.inl ⟨rfl, rfl⟩)) war_char (by decide) (by decide) (Nat.le_of_ble_eq_true rfl) ⟨Nat.le_of_ble_eq_true rfl, Nat.le_of_ble_eq_true rfl⟩ (by decide +kernel) ?_
  show Ev l d mi_X10_init 1715 [some (.ref 65)] [.ref 145, .ref 65] hc_348 80 10092 _
  refine Ev.blk (pc' := 1747) [(.dup, 0, 0, 0), (.iconst 0, 0, 0, 0), (.bipush 109, 0, 0, 0), (.castore, 0, 0, 0), (.dup, 0, 0, 0), (.iconst 1, 0, 0, 0), (.bipush 111, 0, 0, 0), (.castore, 0, 0, 0), (.dup, 0, 0, 0), (.iconst 2, 0, 0, 0), (.bipush 118, 0, 0, 0), (.castore, 0, 0, 0), (.dup, 0, 0, 0), (.iconst 3, 0, 0, 0), (.bipush 101, 0, 0, 0), (.castore, 0, 0, 0), (.dup, 0, 0, 0), (.iconst 4, 0, 0, 0), (.bipush 115, 0, 0, 0), (.castore, 0, 0, 0), (.putfield 260, 0, 10, 109), (.aload_n 0, 0, 0, 0), (.sipush 1700, 0, 0, 0)] (by decide +kernel) ⟨⟨kf_10_260, Or.inr ⟨rfl, rfl, rfl⟩⟩, trivial⟩ rfl (And.intro rfl (And.intro (kc rfl rfl) (And.intro (ib_ok rfl) (And.intro rfl (And.intro (kc rfl rfl) (And.intro (ib_ok rfl) (And.intro rfl (And.intro (kc rfl rfl) (And.intro (ib_ok rfl) (And.intro rfl (And.intro (kc rfl rfl) (And.intro (ib_ok rfl) (And.intro rfl (And.intro (kc rfl rfl) (And.intro (ib_ok rfl) (And.intro (kc rfl rfl) (?_)))))))))))))))))
  show Ev l d mi_X10_init 1747 [some (.ref 65)] [.int 1700, .ref 65] hc_349 80 10092 _
  refine Ev.newarray (at' := .int) (c := 13) (ty := .int) rfl (Or.inr (Or.inr ⟨rfl, rfl⟩)) war_int (by decide) (by decide) (Nat.le_of_ble_eq_true rfl) ⟨Nat.le_of_ble_eq_true rfl, Nat.le_of_ble_eq_true rfl⟩ (by decide +kernel) ?_
  show Ev l d mi_X10_init 1749 [some (.ref 65)] [.ref 146, .ref 65] hc_350 81 11792 _
  refine Ev.blk (pc' := 1756) [(.putfield 263, 0, 10, 110), (.aload_n 0, 0, 0, 0), (.sipush 1700, 0, 0, 0)] (by decide +kernel) ⟨⟨kf_10_263, Or.inr ⟨rfl, rfl, rfl⟩⟩, trivial⟩ rfl (And.intro (kc rfl rfl) (?_))
  show Ev l d mi_X10_init 1756 [some (.ref 65)] [.int 1700, .ref 65] hc_351 81 11792 _
  refine Ev.newarray (at' := .int) (c := 13) (ty := .int) rfl (Or.inr (Or.inr ⟨rfl, rfl⟩)) war_int (by decide) (by decide) (Nat.le_of_ble_eq_true rfl) ⟨Nat.le_of_ble_eq_true rfl, Nat.le_of_ble_eq_true rfl⟩ (by decide +kernel) ?_
  show Ev l d mi_X10_init 1758 [some (.ref 65)] [.ref 147, .ref 65] hc_352 82 13492 _
  refine Ev.blk (pc' := 1765) [(.putfield 266, 0, 10, 112), (.aload_n 0, 0, 0, 0), (.sipush 1700, 0, 0, 0)] (by decide +kernel) ⟨⟨kf_10_266, Or.inr ⟨rfl, rfl, rfl⟩⟩, trivial⟩ rfl (And.intro (kc rfl rfl) (?_))
  show Ev l d mi_X10_init 1765 [some (.ref 65)] [.int 1700, .ref 65] hc_353 82 13492 _
  refine Ev.newlongs war_long (by decide) (by decide) (Nat.le_of_ble_eq_true rfl) ⟨Nat.le_of_ble_eq_true rfl, Nat.le_of_ble_eq_true rfl⟩ (by decide +kernel) ?_
  show Ev l d mi_X10_init 1767 [some (.ref 65)] [.ref 148, .ref 65] hc_354 83 15192 _
  refine Ev.blk (pc' := 1773) [(.putfield 269, 0, 10, 116), (.aload_n 0, 0, 0, 0), (.bipush 32, 0, 0, 0)] (by decide +kernel) ⟨⟨kf_10_269, Or.inr ⟨rfl, rfl, rfl⟩⟩, trivial⟩ rfl (And.intro (kc rfl rfl) (?_))
  show Ev l d mi_X10_init 1773 [some (.ref 65)] [.int 32, .ref 65] hc_355 83 15192 _
  refine Ev.newarray (at' := .int) (c := 13) (ty := .int) rfl (Or.inr (Or.inr ⟨rfl, rfl⟩)) war_int (by decide) (by decide) (Nat.le_of_ble_eq_true rfl) ⟨Nat.le_of_ble_eq_true rfl, Nat.le_of_ble_eq_true rfl⟩ (by decide +kernel) ?_
  show Ev l d mi_X10_init 1775 [some (.ref 65)] [.ref 149, .ref 65] hc_356 84 15224 _
  refine Ev.blk (pc' := 1778) [(.putfield 272, 0, 10, 120)] (by decide +kernel) ⟨⟨kf_10_272, Or.inr ⟨rfl, rfl, rfl⟩⟩, trivial⟩ rfl (And.intro (kc rfl rfl) (?_))
  show Ev l d mi_X10_init 1778 [some (.ref 65)] [] hc_357 84 15224 _
  exact Ev.vret rfl (by decide +kernel) (Nat.le_of_ble_eq_true rfl) (Nat.le_of_ble_eq_true rfl)
