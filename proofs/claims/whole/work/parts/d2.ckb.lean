/-! ===== the checks, done, 2 ===== -/
theorem tb_c_200 : ((tb_Tf 200).all (tb_ck 200)) = true := by decide +kernel
theorem tb_c_201 : ((tb_Tf 201).all (tb_ck 201)) = true := by decide +kernel
theorem tb_c_202 : ((tb_Tf 202).all (tb_ck 202)) = true := by decide +kernel
theorem tb_c_203 : ((tb_Tf 203).all (tb_ck 203)) = true := by decide +kernel
theorem tb_c_204 : ((tb_Tf 204).all (tb_ck 204)) = true := by decide +kernel
theorem tb_c_205 : ((tb_Tf 205).all (tb_ck 205)) = true := by decide +kernel
theorem tb_c_206 : ((tb_Tf 206).all (tb_ck 206)) = true := by decide +kernel
theorem tb_c_207 : ((tb_Tf 207).all (tb_ck 207)) = true := by decide +kernel
theorem tb_c_208 : ((tb_Tf 208).all (tb_ck 208)) = true := by decide +kernel
theorem tb_c_209 : ((tb_Tf 209).all (tb_ck 209)) = true := by decide +kernel
theorem tb_c_210 : ((tb_Tf 210).all (tb_ck 210)) = true := by decide +kernel
theorem tb_c_211 : ((tb_Tf 211).all (tb_ck 211)) = true := by decide +kernel
theorem tb_c_212 : ((tb_Tf 212).all (tb_ck 212)) = true := by decide +kernel
theorem tb_c_213 : ((tb_Tf 213).all (tb_ck 213)) = true := by decide +kernel
theorem tb_c_214 : ((tb_Tf 214).all (tb_ck 214)) = true := by decide +kernel
theorem tb_c_215 : ((tb_Tf 215).all (tb_ck 215)) = true := by decide +kernel
theorem tb_c_216 : ((tb_Tf 216).all (tb_ck 216)) = true := by decide +kernel
theorem tb_c_217 : ((tb_Tf 217).all (tb_ck 217)) = true := by decide +kernel
theorem tb_c_218 : ((tb_Tf 218).all (tb_ck 218)) = true := by decide +kernel
theorem tb_c_219 : ((tb_Tf 219).all (tb_ck 219)) = true := by decide +kernel
theorem tb_c_220 : ((tb_Tf 220).all (tb_ck 220)) = true := by decide +kernel
theorem tb_c_221 : ((tb_Tf 221).all (tb_ck 221)) = true := by decide +kernel
theorem tb_c_222 : ((tb_Tf 222).all (tb_ck 222)) = true := by decide +kernel
theorem tb_c_223 : ((tb_Tf 223).all (tb_ck 223)) = true := by decide +kernel
theorem tb_c_224 : ((tb_Tf 224).all (tb_ck 224)) = true := by decide +kernel
theorem tb_c_225 : ((tb_Tf 225).all (tb_ck 225)) = true := by decide +kernel
theorem tb_c_226 : ((tb_Tf 226).all (tb_ck 226)) = true := by decide +kernel
theorem tb_c_227 : ((tb_Tf 227).all (tb_ck 227)) = true := by decide +kernel
theorem tb_c_228 : ((tb_Tf 228).all (tb_ck 228)) = true := by decide +kernel
theorem tb_c_229 : ((tb_Tf 229).all (tb_ck 229)) = true := by decide +kernel
theorem tb_c_230 : ((tb_Tf 230).all (tb_ck 230)) = true := by decide +kernel
theorem tb_c_231 : ((tb_Tf 231).all (tb_ck 231)) = true := by decide +kernel
theorem tb_c_232 : ((tb_Tf 232).all (tb_ck 232)) = true := by decide +kernel
theorem tb_c_233 : ((tb_Tf 233).all (tb_ck 233)) = true := by decide +kernel
theorem tb_c_234 : ((tb_Tf 234).all (tb_ck 234)) = true := by decide +kernel
theorem tb_c_235 : ((tb_Tf 235).all (tb_ck 235)) = true := by decide +kernel
theorem tb_c_236 : ((tb_Tf 236).all (tb_ck 236)) = true := by decide +kernel
theorem tb_c_237 : ((tb_Tf 237).all (tb_ck 237)) = true := by decide +kernel
theorem tb_c_238 : ((tb_Tf 238).all (tb_ck 238)) = true := by decide +kernel
theorem tb_c_239 : ((tb_Tf 239).all (tb_ck 239)) = true := by decide +kernel
theorem tb_c_240 : ((tb_Tf 240).all (tb_ck 240)) = true := by decide +kernel
theorem tb_c_241 : ((tb_Tf 241).all (tb_ck 241)) = true := by decide +kernel
theorem tb_c_242 : ((tb_Tf 242).all (tb_ck 242)) = true := by decide +kernel
theorem tb_c_243 : ((tb_Tf 243).all (tb_ck 243)) = true := by decide +kernel
theorem tb_c_244 : ((tb_Tf 244).all (tb_ck 244)) = true := by decide +kernel
theorem tb_c_245 : ((tb_Tf 245).all (tb_ck 245)) = true := by decide +kernel
theorem tb_c_246 : ((tb_Tf 246).all (tb_ck 246)) = true := by decide +kernel
theorem tb_c_247 : ((tb_Tf 247).all (tb_ck 247)) = true := by decide +kernel
theorem tb_c_248 : ((tb_Tf 248).all (tb_ck 248)) = true := by decide +kernel
theorem tb_c_249 : ((tb_Tf 249).all (tb_ck 249)) = true := by decide +kernel
theorem tb_c_250 : ((tb_Tf 250).all (tb_ck 250)) = true := by decide +kernel
theorem tb_c_251 : ((tb_Tf 251).all (tb_ck 251)) = true := by decide +kernel
theorem tb_c_252 : ((tb_Tf 252).all (tb_ck 252)) = true := by decide +kernel
theorem tb_c_253 : ((tb_Tf 253).all (tb_ck 253)) = true := by decide +kernel
theorem tb_c_254 : ((tb_Tf 254).all (tb_ck 254)) = true := by decide +kernel
theorem tb_c_255 : ((tb_Tf 255).all (tb_ck 255)) = true := by decide +kernel
theorem tb_c_256 : ((tb_Tf 256).all (tb_ck 256)) = true := by decide +kernel
theorem tb_c_257 : ((tb_Tf 257).all (tb_ck 257)) = true := by decide +kernel
theorem tb_c_258 : ((tb_Tf 258).all (tb_ck 258)) = true := by decide +kernel
theorem tb_c_259 : ((tb_Tf 259).all (tb_ck 259)) = true := by decide +kernel
theorem tb_c_260 : ((tb_Tf 260).all (tb_ck 260)) = true := by decide +kernel
theorem tb_c_261 : ((tb_Tf 261).all (tb_ck 261)) = true := by decide +kernel
theorem tb_c_262 : ((tb_Tf 262).all (tb_ck 262)) = true := by decide +kernel
theorem tb_c_263 : ((tb_Tf 263).all (tb_ck 263)) = true := by decide +kernel
theorem tb_c_264 : ((tb_Tf 264).all (tb_ck 264)) = true := by decide +kernel
theorem tb_c_265 : ((tb_Tf 265).all (tb_ck 265)) = true := by decide +kernel
theorem tb_c_266 : ((tb_Tf 266).all (tb_ck 266)) = true := by decide +kernel
theorem tb_c_267 : ((tb_Tf 267).all (tb_ck 267)) = true := by decide +kernel
theorem tb_c_268 : ((tb_Tf 268).all (tb_ck 268)) = true := by decide +kernel
theorem tb_c_269 : ((tb_Tf 269).all (tb_ck 269)) = true := by decide +kernel
theorem tb_c_270 : ((tb_Tf 270).all (tb_ck 270)) = true := by decide +kernel
theorem tb_c_271 : ((tb_Tf 271).all (tb_ck 271)) = true := by decide +kernel
theorem tb_c_272 : ((tb_Tf 272).all (tb_ck 272)) = true := by decide +kernel
theorem tb_c_273 : ((tb_Tf 273).all (tb_ck 273)) = true := by decide +kernel
theorem tb_c_274 : ((tb_Tf 274).all (tb_ck 274)) = true := by decide +kernel
theorem tb_c_275 : ((tb_Tf 275).all (tb_ck 275)) = true := by decide +kernel
theorem tb_c_276 : ((tb_Tf 276).all (tb_ck 276)) = true := by decide +kernel
theorem tb_c_277 : ((tb_Tf 277).all (tb_ck 277)) = true := by decide +kernel
theorem tb_c_278 : ((tb_Tf 278).all (tb_ck 278)) = true := by decide +kernel
theorem tb_c_279 : ((tb_Tf 279).all (tb_ck 279)) = true := by decide +kernel
theorem tb_c_280 : ((tb_Tf 280).all (tb_ck 280)) = true := by decide +kernel
theorem tb_c_281 : ((tb_Tf 281).all (tb_ck 281)) = true := by decide +kernel
theorem tb_c_282 : ((tb_Tf 282).all (tb_ck 282)) = true := by decide +kernel
theorem tb_c_283 : ((tb_Tf 283).all (tb_ck 283)) = true := by decide +kernel
theorem tb_c_284 : ((tb_Tf 284).all (tb_ck 284)) = true := by decide +kernel
theorem tb_c_285 : ((tb_Tf 285).all (tb_ck 285)) = true := by decide +kernel
theorem tb_c_286 : ((tb_Tf 286).all (tb_ck 286)) = true := by decide +kernel
theorem tb_c_287 : ((tb_Tf 287).all (tb_ck 287)) = true := by decide +kernel
theorem tb_c_288 : ((tb_Tf 288).all (tb_ck 288)) = true := by decide +kernel
theorem tb_c_289 : ((tb_Tf 289).all (tb_ck 289)) = true := by decide +kernel
theorem tb_c_290 : ((tb_Tf 290).all (tb_ck 290)) = true := by decide +kernel
theorem tb_c_291 : ((tb_Tf 291).all (tb_ck 291)) = true := by decide +kernel
theorem tb_c_292 : ((tb_Tf 292).all (tb_ck 292)) = true := by decide +kernel
theorem tb_c_293 : ((tb_Tf 293).all (tb_ck 293)) = true := by decide +kernel
theorem tb_c_294 : ((tb_Tf 294).all (tb_ck 294)) = true := by decide +kernel
theorem tb_c_295 : ((tb_Tf 295).all (tb_ck 295)) = true := by decide +kernel
theorem tb_c_296 : ((tb_Tf 296).all (tb_ck 296)) = true := by decide +kernel
theorem tb_c_297 : ((tb_Tf 297).all (tb_ck 297)) = true := by decide +kernel
theorem tb_c_298 : ((tb_Tf 298).all (tb_ck 298)) = true := by decide +kernel
theorem tb_c_299 : ((tb_Tf 299).all (tb_ck 299)) = true := by decide +kernel
theorem tb_c_300 : ((tb_Tf 300).all (tb_ck 300)) = true := by decide +kernel
theorem tb_c_301 : ((tb_Tf 301).all (tb_ck 301)) = true := by decide +kernel
theorem tb_c_302 : ((tb_Tf 302).all (tb_ck 302)) = true := by decide +kernel
theorem tb_c_303 : ((tb_Tf 303).all (tb_ck 303)) = true := by decide +kernel
theorem tb_c_304 : ((tb_Tf 304).all (tb_ck 304)) = true := by decide +kernel
theorem tb_c_305 : ((tb_Tf 305).all (tb_ck 305)) = true := by decide +kernel
theorem tb_c_306 : ((tb_Tf 306).all (tb_ck 306)) = true := by decide +kernel
theorem tb_c_307 : ((tb_Tf 307).all (tb_ck 307)) = true := by decide +kernel
theorem tb_c_308 : ((tb_Tf 308).all (tb_ck 308)) = true := by decide +kernel
theorem tb_c_309 : ((tb_Tf 309).all (tb_ck 309)) = true := by decide +kernel
theorem tb_c_310 : ((tb_Tf 310).all (tb_ck 310)) = true := by decide +kernel
theorem tb_c_311 : ((tb_Tf 311).all (tb_ck 311)) = true := by decide +kernel
theorem tb_c_312 : ((tb_Tf 312).all (tb_ck 312)) = true := by decide +kernel
theorem tb_c_313 : ((tb_Tf 313).all (tb_ck 313)) = true := by decide +kernel
theorem tb_c_314 : ((tb_Tf 314).all (tb_ck 314)) = true := by decide +kernel
theorem tb_c_315 : ((tb_Tf 315).all (tb_ck 315)) = true := by decide +kernel
theorem tb_c_316 : ((tb_Tf 316).all (tb_ck 316)) = true := by decide +kernel
theorem tb_c_317 : ((tb_Tf 317).all (tb_ck 317)) = true := by decide +kernel
theorem tb_c_318 : ((tb_Tf 318).all (tb_ck 318)) = true := by decide +kernel
theorem tb_c_319 : ((tb_Tf 319).all (tb_ck 319)) = true := by decide +kernel
theorem tb_c_320 : ((tb_Tf 320).all (tb_ck 320)) = true := by decide +kernel
theorem tb_c_321 : ((tb_Tf 321).all (tb_ck 321)) = true := by decide +kernel
theorem tb_c_322 : ((tb_Tf 322).all (tb_ck 322)) = true := by decide +kernel
theorem tb_c_323 : ((tb_Tf 323).all (tb_ck 323)) = true := by decide +kernel
theorem tb_c_324 : ((tb_Tf 324).all (tb_ck 324)) = true := by decide +kernel
theorem tb_c_325 : ((tb_Tf 325).all (tb_ck 325)) = true := by decide +kernel
theorem tb_c_326 : ((tb_Tf 326).all (tb_ck 326)) = true := by decide +kernel
theorem tb_c_327 : ((tb_Tf 327).all (tb_ck 327)) = true := by decide +kernel
theorem tb_c_328 : ((tb_Tf 328).all (tb_ck 328)) = true := by decide +kernel
theorem tb_c_329 : ((tb_Tf 329).all (tb_ck 329)) = true := by decide +kernel
theorem tb_c_330 : ((tb_Tf 330).all (tb_ck 330)) = true := by decide +kernel
theorem tb_c_331 : ((tb_Tf 331).all (tb_ck 331)) = true := by decide +kernel
theorem tb_c_332 : ((tb_Tf 332).all (tb_ck 332)) = true := by decide +kernel
theorem tb_c_333 : ((tb_Tf 333).all (tb_ck 333)) = true := by decide +kernel
theorem tb_c_334 : ((tb_Tf 334).all (tb_ck 334)) = true := by decide +kernel
theorem tb_c_335 : ((tb_Tf 335).all (tb_ck 335)) = true := by decide +kernel
theorem tb_c_336 : ((tb_Tf 336).all (tb_ck 336)) = true := by decide +kernel
theorem tb_c_337 : ((tb_Tf 337).all (tb_ck 337)) = true := by decide +kernel
theorem tb_c_338 : ((tb_Tf 338).all (tb_ck 338)) = true := by decide +kernel
theorem tb_c_339 : ((tb_Tf 339).all (tb_ck 339)) = true := by decide +kernel
theorem tb_c_340 : ((tb_Tf 340).all (tb_ck 340)) = true := by decide +kernel
theorem tb_c_341 : ((tb_Tf 341).all (tb_ck 341)) = true := by decide +kernel
theorem tb_c_342 : ((tb_Tf 342).all (tb_ck 342)) = true := by decide +kernel
theorem tb_c_343 : ((tb_Tf 343).all (tb_ck 343)) = true := by decide +kernel
theorem tb_c_344 : ((tb_Tf 344).all (tb_ck 344)) = true := by decide +kernel
theorem tb_c_345 : ((tb_Tf 345).all (tb_ck 345)) = true := by decide +kernel
theorem tb_c_346 : ((tb_Tf 346).all (tb_ck 346)) = true := by decide +kernel
theorem tb_c_347 : ((tb_Tf 347).all (tb_ck 347)) = true := by decide +kernel
theorem tb_c_348 : ((tb_Tf 348).all (tb_ck 348)) = true := by decide +kernel
theorem tb_c_349 : ((tb_Tf 349).all (tb_ck 349)) = true := by decide +kernel
theorem tb_c_350 : ((tb_Tf 350).all (tb_ck 350)) = true := by decide +kernel
theorem tb_c_351 : ((tb_Tf 351).all (tb_ck 351)) = true := by decide +kernel
theorem tb_c_352 : ((tb_Tf 352).all (tb_ck 352)) = true := by decide +kernel
theorem tb_c_353 : ((tb_Tf 353).all (tb_ck 353)) = true := by decide +kernel
theorem tb_c_354 : ((tb_Tf 354).all (tb_ck 354)) = true := by decide +kernel
theorem tb_c_355 : ((tb_Tf 355).all (tb_ck 355)) = true := by decide +kernel
theorem tb_c_356 : ((tb_Tf 356).all (tb_ck 356)) = true := by decide +kernel
theorem tb_c_357 : ((tb_Tf 357).all (tb_ck 357)) = true := by decide +kernel
theorem tb_c_358 : ((tb_Tf 358).all (tb_ck 358)) = true := by decide +kernel
theorem tb_c_359 : ((tb_Tf 359).all (tb_ck 359)) = true := by decide +kernel
theorem tb_c_360 : ((tb_Tf 360).all (tb_ck 360)) = true := by decide +kernel
theorem tb_c_361 : ((tb_Tf 361).all (tb_ck 361)) = true := by decide +kernel
theorem tb_c_362 : ((tb_Tf 362).all (tb_ck 362)) = true := by decide +kernel
theorem tb_c_363 : ((tb_Tf 363).all (tb_ck 363)) = true := by decide +kernel
theorem tb_c_364 : ((tb_Tf 364).all (tb_ck 364)) = true := by decide +kernel
theorem tb_c_365 : ((tb_Tf 365).all (tb_ck 365)) = true := by decide +kernel
theorem tb_c_366 : ((tb_Tf 366).all (tb_ck 366)) = true := by decide +kernel
theorem tb_c_367 : ((tb_Tf 367).all (tb_ck 367)) = true := by decide +kernel
theorem tb_c_368 : ((tb_Tf 368).all (tb_ck 368)) = true := by decide +kernel
theorem tb_c_369 : ((tb_Tf 369).all (tb_ck 369)) = true := by decide +kernel
theorem tb_c_370 : ((tb_Tf 370).all (tb_ck 370)) = true := by decide +kernel
theorem tb_c_371 : ((tb_Tf 371).all (tb_ck 371)) = true := by decide +kernel
theorem tb_c_372 : ((tb_Tf 372).all (tb_ck 372)) = true := by decide +kernel
theorem tb_c_373 : ((tb_Tf 373).all (tb_ck 373)) = true := by decide +kernel
theorem tb_c_374 : ((tb_Tf 374).all (tb_ck 374)) = true := by decide +kernel
theorem tb_c_375 : ((tb_Tf 375).all (tb_ck 375)) = true := by decide +kernel
theorem tb_c_376 : ((tb_Tf 376).all (tb_ck 376)) = true := by decide +kernel
theorem tb_c_377 : ((tb_Tf 377).all (tb_ck 377)) = true := by decide +kernel
theorem tb_c_378 : ((tb_Tf 378).all (tb_ck 378)) = true := by decide +kernel
theorem tb_c_379 : ((tb_Tf 379).all (tb_ck 379)) = true := by decide +kernel
theorem tb_c_380 : ((tb_Tf 380).all (tb_ck 380)) = true := by decide +kernel
theorem tb_c_381 : ((tb_Tf 381).all (tb_ck 381)) = true := by decide +kernel
theorem tb_c_382 : ((tb_Tf 382).all (tb_ck 382)) = true := by decide +kernel
theorem tb_c_383 : ((tb_Tf 383).all (tb_ck 383)) = true := by decide +kernel
theorem tb_c_384 : ((tb_Tf 384).all (tb_ck 384)) = true := by decide +kernel
theorem tb_cB_r200 : ∀ j, 200 ≤ j → j < 220 → ((tb_Tf j).all (tb_ck j)) = true := by
  intro j h1 h2
  have h : j = 200 ∨ j = 201 ∨ j = 202 ∨ j = 203 ∨ j = 204 ∨ j = 205 ∨ j = 206 ∨ j = 207 ∨ j = 208 ∨ j = 209 ∨ j = 210 ∨ j = 211 ∨ j = 212 ∨ j = 213 ∨ j = 214 ∨ j = 215 ∨ j = 216 ∨ j = 217 ∨ j = 218 ∨ j = 219 := by omega
  rcases h with rfl | rfl | rfl | rfl | rfl | rfl | rfl | rfl | rfl | rfl | rfl | rfl | rfl | rfl | rfl | rfl | rfl | rfl | rfl | rfl
  · exact tb_c_200
  · exact tb_c_201
  · exact tb_c_202
  · exact tb_c_203
  · exact tb_c_204
  · exact tb_c_205
  · exact tb_c_206
  · exact tb_c_207
  · exact tb_c_208
  · exact tb_c_209
  · exact tb_c_210
  · exact tb_c_211
  · exact tb_c_212
  · exact tb_c_213
  · exact tb_c_214
  · exact tb_c_215
  · exact tb_c_216
  · exact tb_c_217
  · exact tb_c_218
  · exact tb_c_219
theorem tb_cB_r220 : ∀ j, 220 ≤ j → j < 240 → ((tb_Tf j).all (tb_ck j)) = true := by
  intro j h1 h2
  have h : j = 220 ∨ j = 221 ∨ j = 222 ∨ j = 223 ∨ j = 224 ∨ j = 225 ∨ j = 226 ∨ j = 227 ∨ j = 228 ∨ j = 229 ∨ j = 230 ∨ j = 231 ∨ j = 232 ∨ j = 233 ∨ j = 234 ∨ j = 235 ∨ j = 236 ∨ j = 237 ∨ j = 238 ∨ j = 239 := by omega
  rcases h with rfl | rfl | rfl | rfl | rfl | rfl | rfl | rfl | rfl | rfl | rfl | rfl | rfl | rfl | rfl | rfl | rfl | rfl | rfl | rfl
  · exact tb_c_220
  · exact tb_c_221
  · exact tb_c_222
  · exact tb_c_223
  · exact tb_c_224
  · exact tb_c_225
  · exact tb_c_226
  · exact tb_c_227
  · exact tb_c_228
  · exact tb_c_229
  · exact tb_c_230
  · exact tb_c_231
  · exact tb_c_232
  · exact tb_c_233
  · exact tb_c_234
  · exact tb_c_235
  · exact tb_c_236
  · exact tb_c_237
  · exact tb_c_238
  · exact tb_c_239
theorem tb_cB_r240 : ∀ j, 240 ≤ j → j < 260 → ((tb_Tf j).all (tb_ck j)) = true := by
  intro j h1 h2
  have h : j = 240 ∨ j = 241 ∨ j = 242 ∨ j = 243 ∨ j = 244 ∨ j = 245 ∨ j = 246 ∨ j = 247 ∨ j = 248 ∨ j = 249 ∨ j = 250 ∨ j = 251 ∨ j = 252 ∨ j = 253 ∨ j = 254 ∨ j = 255 ∨ j = 256 ∨ j = 257 ∨ j = 258 ∨ j = 259 := by omega
  rcases h with rfl | rfl | rfl | rfl | rfl | rfl | rfl | rfl | rfl | rfl | rfl | rfl | rfl | rfl | rfl | rfl | rfl | rfl | rfl | rfl
  · exact tb_c_240
  · exact tb_c_241
  · exact tb_c_242
  · exact tb_c_243
  · exact tb_c_244
  · exact tb_c_245
  · exact tb_c_246
  · exact tb_c_247
  · exact tb_c_248
  · exact tb_c_249
  · exact tb_c_250
  · exact tb_c_251
  · exact tb_c_252
  · exact tb_c_253
  · exact tb_c_254
  · exact tb_c_255
  · exact tb_c_256
  · exact tb_c_257
  · exact tb_c_258
  · exact tb_c_259
theorem tb_cB_r260 : ∀ j, 260 ≤ j → j < 280 → ((tb_Tf j).all (tb_ck j)) = true := by
  intro j h1 h2
  have h : j = 260 ∨ j = 261 ∨ j = 262 ∨ j = 263 ∨ j = 264 ∨ j = 265 ∨ j = 266 ∨ j = 267 ∨ j = 268 ∨ j = 269 ∨ j = 270 ∨ j = 271 ∨ j = 272 ∨ j = 273 ∨ j = 274 ∨ j = 275 ∨ j = 276 ∨ j = 277 ∨ j = 278 ∨ j = 279 := by omega
  rcases h with rfl | rfl | rfl | rfl | rfl | rfl | rfl | rfl | rfl | rfl | rfl | rfl | rfl | rfl | rfl | rfl | rfl | rfl | rfl | rfl
  · exact tb_c_260
  · exact tb_c_261
  · exact tb_c_262
  · exact tb_c_263
  · exact tb_c_264
  · exact tb_c_265
  · exact tb_c_266
  · exact tb_c_267
  · exact tb_c_268
  · exact tb_c_269
  · exact tb_c_270
  · exact tb_c_271
  · exact tb_c_272
  · exact tb_c_273
  · exact tb_c_274
  · exact tb_c_275
  · exact tb_c_276
  · exact tb_c_277
  · exact tb_c_278
  · exact tb_c_279
theorem tb_cB_r280 : ∀ j, 280 ≤ j → j < 300 → ((tb_Tf j).all (tb_ck j)) = true := by
  intro j h1 h2
  have h : j = 280 ∨ j = 281 ∨ j = 282 ∨ j = 283 ∨ j = 284 ∨ j = 285 ∨ j = 286 ∨ j = 287 ∨ j = 288 ∨ j = 289 ∨ j = 290 ∨ j = 291 ∨ j = 292 ∨ j = 293 ∨ j = 294 ∨ j = 295 ∨ j = 296 ∨ j = 297 ∨ j = 298 ∨ j = 299 := by omega
  rcases h with rfl | rfl | rfl | rfl | rfl | rfl | rfl | rfl | rfl | rfl | rfl | rfl | rfl | rfl | rfl | rfl | rfl | rfl | rfl | rfl
  · exact tb_c_280
  · exact tb_c_281
  · exact tb_c_282
  · exact tb_c_283
  · exact tb_c_284
  · exact tb_c_285
  · exact tb_c_286
  · exact tb_c_287
  · exact tb_c_288
  · exact tb_c_289
  · exact tb_c_290
  · exact tb_c_291
  · exact tb_c_292
  · exact tb_c_293
  · exact tb_c_294
  · exact tb_c_295
  · exact tb_c_296
  · exact tb_c_297
  · exact tb_c_298
  · exact tb_c_299
theorem tb_cB_r300 : ∀ j, 300 ≤ j → j < 320 → ((tb_Tf j).all (tb_ck j)) = true := by
  intro j h1 h2
  have h : j = 300 ∨ j = 301 ∨ j = 302 ∨ j = 303 ∨ j = 304 ∨ j = 305 ∨ j = 306 ∨ j = 307 ∨ j = 308 ∨ j = 309 ∨ j = 310 ∨ j = 311 ∨ j = 312 ∨ j = 313 ∨ j = 314 ∨ j = 315 ∨ j = 316 ∨ j = 317 ∨ j = 318 ∨ j = 319 := by omega
  rcases h with rfl | rfl | rfl | rfl | rfl | rfl | rfl | rfl | rfl | rfl | rfl | rfl | rfl | rfl | rfl | rfl | rfl | rfl | rfl | rfl
  · exact tb_c_300
  · exact tb_c_301
  · exact tb_c_302
  · exact tb_c_303
  · exact tb_c_304
  · exact tb_c_305
  · exact tb_c_306
  · exact tb_c_307
  · exact tb_c_308
  · exact tb_c_309
  · exact tb_c_310
  · exact tb_c_311
  · exact tb_c_312
  · exact tb_c_313
  · exact tb_c_314
  · exact tb_c_315
  · exact tb_c_316
  · exact tb_c_317
  · exact tb_c_318
  · exact tb_c_319
theorem tb_cB_r320 : ∀ j, 320 ≤ j → j < 340 → ((tb_Tf j).all (tb_ck j)) = true := by
  intro j h1 h2
  have h : j = 320 ∨ j = 321 ∨ j = 322 ∨ j = 323 ∨ j = 324 ∨ j = 325 ∨ j = 326 ∨ j = 327 ∨ j = 328 ∨ j = 329 ∨ j = 330 ∨ j = 331 ∨ j = 332 ∨ j = 333 ∨ j = 334 ∨ j = 335 ∨ j = 336 ∨ j = 337 ∨ j = 338 ∨ j = 339 := by omega
  rcases h with rfl | rfl | rfl | rfl | rfl | rfl | rfl | rfl | rfl | rfl | rfl | rfl | rfl | rfl | rfl | rfl | rfl | rfl | rfl | rfl
  · exact tb_c_320
  · exact tb_c_321
  · exact tb_c_322
  · exact tb_c_323
  · exact tb_c_324
  · exact tb_c_325
  · exact tb_c_326
  · exact tb_c_327
  · exact tb_c_328
  · exact tb_c_329
  · exact tb_c_330
  · exact tb_c_331
  · exact tb_c_332
  · exact tb_c_333
  · exact tb_c_334
  · exact tb_c_335
  · exact tb_c_336
  · exact tb_c_337
  · exact tb_c_338
  · exact tb_c_339
theorem tb_cB_r340 : ∀ j, 340 ≤ j → j < 360 → ((tb_Tf j).all (tb_ck j)) = true := by
  intro j h1 h2
  have h : j = 340 ∨ j = 341 ∨ j = 342 ∨ j = 343 ∨ j = 344 ∨ j = 345 ∨ j = 346 ∨ j = 347 ∨ j = 348 ∨ j = 349 ∨ j = 350 ∨ j = 351 ∨ j = 352 ∨ j = 353 ∨ j = 354 ∨ j = 355 ∨ j = 356 ∨ j = 357 ∨ j = 358 ∨ j = 359 := by omega
  rcases h with rfl | rfl | rfl | rfl | rfl | rfl | rfl | rfl | rfl | rfl | rfl | rfl | rfl | rfl | rfl | rfl | rfl | rfl | rfl | rfl
  · exact tb_c_340
  · exact tb_c_341
  · exact tb_c_342
  · exact tb_c_343
  · exact tb_c_344
  · exact tb_c_345
  · exact tb_c_346
  · exact tb_c_347
  · exact tb_c_348
  · exact tb_c_349
  · exact tb_c_350
  · exact tb_c_351
  · exact tb_c_352
  · exact tb_c_353
  · exact tb_c_354
  · exact tb_c_355
  · exact tb_c_356
  · exact tb_c_357
  · exact tb_c_358
  · exact tb_c_359
theorem tb_cB_r360 : ∀ j, 360 ≤ j → j < 380 → ((tb_Tf j).all (tb_ck j)) = true := by
  intro j h1 h2
  have h : j = 360 ∨ j = 361 ∨ j = 362 ∨ j = 363 ∨ j = 364 ∨ j = 365 ∨ j = 366 ∨ j = 367 ∨ j = 368 ∨ j = 369 ∨ j = 370 ∨ j = 371 ∨ j = 372 ∨ j = 373 ∨ j = 374 ∨ j = 375 ∨ j = 376 ∨ j = 377 ∨ j = 378 ∨ j = 379 := by omega
  rcases h with rfl | rfl | rfl | rfl | rfl | rfl | rfl | rfl | rfl | rfl | rfl | rfl | rfl | rfl | rfl | rfl | rfl | rfl | rfl | rfl
  · exact tb_c_360
  · exact tb_c_361
  · exact tb_c_362
  · exact tb_c_363
  · exact tb_c_364
  · exact tb_c_365
  · exact tb_c_366
  · exact tb_c_367
  · exact tb_c_368
  · exact tb_c_369
  · exact tb_c_370
  · exact tb_c_371
  · exact tb_c_372
  · exact tb_c_373
  · exact tb_c_374
  · exact tb_c_375
  · exact tb_c_376
  · exact tb_c_377
  · exact tb_c_378
  · exact tb_c_379
theorem tb_cB_r380 : ∀ j, 380 ≤ j → j < 385 → ((tb_Tf j).all (tb_ck j)) = true := by
  intro j h1 h2
  have h : j = 380 ∨ j = 381 ∨ j = 382 ∨ j = 383 ∨ j = 384 := by omega
  rcases h with rfl | rfl | rfl | rfl | rfl
  · exact tb_c_380
  · exact tb_c_381
  · exact tb_c_382
  · exact tb_c_383
  · exact tb_c_384
theorem tb_cB : ∀ j, 200 ≤ j → j < 385 → ((tb_Tf j).all (tb_ck j)) = true := by
  intro j h0 hj
  rcases Nat.lt_or_ge j 220 with h | h
  · exact tb_cB_r200 j (by omega) h
  rcases Nat.lt_or_ge j 240 with h | h
  · exact tb_cB_r220 j (by omega) h
  rcases Nat.lt_or_ge j 260 with h | h
  · exact tb_cB_r240 j (by omega) h
  rcases Nat.lt_or_ge j 280 with h | h
  · exact tb_cB_r260 j (by omega) h
  rcases Nat.lt_or_ge j 300 with h | h
  · exact tb_cB_r280 j (by omega) h
  rcases Nat.lt_or_ge j 320 with h | h
  · exact tb_cB_r300 j (by omega) h
  rcases Nat.lt_or_ge j 340 with h | h
  · exact tb_cB_r320 j (by omega) h
  rcases Nat.lt_or_ge j 360 with h | h
  · exact tb_cB_r340 j (by omega) h
  rcases Nat.lt_or_ge j 380 with h | h
  · exact tb_cB_r360 j (by omega) h
  rcases Nat.lt_or_ge j 385 with h | h
  · exact tb_cB_r380 j (by omega) h
  exact absurd hj (by omega)
