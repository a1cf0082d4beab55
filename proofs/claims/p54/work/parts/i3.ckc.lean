/-! ===== the checks, done, 3 ===== -/
theorem tb_jk_300 : (tb_jk 300 && tb_ckj 300) = true := by decide +kernel
theorem tb_c_300 : ((tb_Tf 300).all (tb_ck 300)) = true := by decide +kernel
theorem tb_jk_301 : (tb_jk 301 && tb_ckj 301) = true := by decide +kernel
theorem tb_c_301 : ((tb_Tf 301).all (tb_ck 301)) = true := by decide +kernel
theorem tb_jk_302 : (tb_jk 302 && tb_ckj 302) = true := by decide +kernel
theorem tb_c_302 : ((tb_Tf 302).all (tb_ck 302)) = true := by decide +kernel
theorem tb_jk_303 : (tb_jk 303 && tb_ckj 303) = true := by decide +kernel
theorem tb_c_303 : ((tb_Tf 303).all (tb_ck 303)) = true := by decide +kernel
theorem tb_jk_304 : (tb_jk 304 && tb_ckj 304) = true := by decide +kernel
theorem tb_c_304 : ((tb_Tf 304).all (tb_ck 304)) = true := by decide +kernel
theorem tb_jk_305 : (tb_jk 305 && tb_ckj 305) = true := by decide +kernel
theorem tb_c_305 : ((tb_Tf 305).all (tb_ck 305)) = true := by decide +kernel
theorem tb_jk_306 : (tb_jk 306 && tb_ckj 306) = true := by decide +kernel
theorem tb_c_306 : ((tb_Tf 306).all (tb_ck 306)) = true := by decide +kernel
theorem tb_jk_307 : (tb_jk 307 && tb_ckj 307) = true := by decide +kernel
theorem tb_c_307 : ((tb_Tf 307).all (tb_ck 307)) = true := by decide +kernel
theorem tb_jk_308 : (tb_jk 308 && tb_ckj 308) = true := by decide +kernel
theorem tb_c_308 : ((tb_Tf 308).all (tb_ck 308)) = true := by decide +kernel
theorem tb_jk_309 : (tb_jk 309 && tb_ckj 309) = true := by decide +kernel
theorem tb_c_309 : ((tb_Tf 309).all (tb_ck 309)) = true := by decide +kernel
theorem tb_jk_310 : (tb_jk 310 && tb_ckj 310) = true := by decide +kernel
theorem tb_c_310 : ((tb_Tf 310).all (tb_ck 310)) = true := by decide +kernel
theorem tb_jk_311 : (tb_jk 311 && tb_ckj 311) = true := by decide +kernel
theorem tb_c_311 : ((tb_Tf 311).all (tb_ck 311)) = true := by decide +kernel
theorem tb_jk_312 : (tb_jk 312 && tb_ckj 312) = true := by decide +kernel
theorem tb_c_312 : ((tb_Tf 312).all (tb_ck 312)) = true := by decide +kernel
theorem tb_jk_313 : (tb_jk 313 && tb_ckj 313) = true := by decide +kernel
theorem tb_c_313 : ((tb_Tf 313).all (tb_ck 313)) = true := by decide +kernel
theorem tb_jk_314 : (tb_jk 314 && tb_ckj 314) = true := by decide +kernel
theorem tb_c_314 : ((tb_Tf 314).all (tb_ck 314)) = true := by decide +kernel
theorem tb_jk_315 : (tb_jk 315 && tb_ckj 315) = true := by decide +kernel
theorem tb_c_315 : ((tb_Tf 315).all (tb_ck 315)) = true := by decide +kernel
theorem tb_jk_316 : (tb_jk 316 && tb_ckj 316) = true := by decide +kernel
theorem tb_c_316_0 : (tb_m316_0.all (tb_ck 316)) = true := by decide +kernel
theorem tb_c_316_1 : (tb_m316_1.all (tb_ck 316)) = true := by decide +kernel
theorem tb_c_316 : ((tb_Tf 316).all (tb_ck 316)) = true := by
  show (tb_m316.all (tb_ck 316)) = true
  simp only [tb_m316, List.all_append, tb_c_316_0, tb_c_316_1, Bool.and_self]
theorem tb_jk_317 : (tb_jk 317 && tb_ckj 317) = true := by decide +kernel
theorem tb_c_317_0 : (tb_m317_0.all (tb_ck 317)) = true := by decide +kernel
theorem tb_c_317_1 : (tb_m317_1.all (tb_ck 317)) = true := by decide +kernel
theorem tb_c_317 : ((tb_Tf 317).all (tb_ck 317)) = true := by
  show (tb_m317.all (tb_ck 317)) = true
  simp only [tb_m317, List.all_append, tb_c_317_0, tb_c_317_1, Bool.and_self]
theorem tb_jk_318 : (tb_jk 318 && tb_ckj 318) = true := by decide +kernel
theorem tb_c_318 : ((tb_Tf 318).all (tb_ck 318)) = true := by decide +kernel
theorem tb_jk_319 : (tb_jk 319 && tb_ckj 319) = true := by decide +kernel
theorem tb_c_319 : ((tb_Tf 319).all (tb_ck 319)) = true := by decide +kernel
theorem tb_jk_320 : (tb_jk 320 && tb_ckj 320) = true := by decide +kernel
theorem tb_c_320 : ((tb_Tf 320).all (tb_ck 320)) = true := by decide +kernel
theorem tb_jk_321 : (tb_jk 321 && tb_ckj 321) = true := by decide +kernel
theorem tb_c_321 : ((tb_Tf 321).all (tb_ck 321)) = true := by decide +kernel
theorem tb_jk_322 : (tb_jk 322 && tb_ckj 322) = true := by decide +kernel
theorem tb_c_322 : ((tb_Tf 322).all (tb_ck 322)) = true := by decide +kernel
theorem tb_jk_323 : (tb_jk 323 && tb_ckj 323) = true := by decide +kernel
theorem tb_c_323 : ((tb_Tf 323).all (tb_ck 323)) = true := by decide +kernel
theorem tb_jk_324 : (tb_jk 324 && tb_ckj 324) = true := by decide +kernel
theorem tb_c_324 : ((tb_Tf 324).all (tb_ck 324)) = true := by decide +kernel
theorem tb_jk_325 : (tb_jk 325 && tb_ckj 325) = true := by decide +kernel
theorem tb_c_325 : ((tb_Tf 325).all (tb_ck 325)) = true := by decide +kernel
theorem tb_jk_336 : (tb_jk 336 && tb_ckj 336) = true := by decide +kernel
theorem tb_c_336 : ((tb_Tf 336).all (tb_ck 336)) = true := by decide +kernel
theorem tb_jk_337 : (tb_jk 337 && tb_ckj 337) = true := by decide +kernel
theorem tb_c_337 : ((tb_Tf 337).all (tb_ck 337)) = true := by decide +kernel
theorem tb_jk_338 : (tb_jk 338 && tb_ckj 338) = true := by decide +kernel
theorem tb_c_338 : ((tb_Tf 338).all (tb_ck 338)) = true := by decide +kernel
theorem tb_jk_342 : (tb_jk 342 && tb_ckj 342) = true := by decide +kernel
theorem tb_c_342 : ((tb_Tf 342).all (tb_ck 342)) = true := by decide +kernel
theorem tb_jk_343 : (tb_jk 343 && tb_ckj 343) = true := by decide +kernel
theorem tb_c_343 : ((tb_Tf 343).all (tb_ck 343)) = true := by decide +kernel
theorem tb_jk_344 : (tb_jk 344 && tb_ckj 344) = true := by decide +kernel
theorem tb_c_344 : ((tb_Tf 344).all (tb_ck 344)) = true := by decide +kernel
theorem tb_jk_347 : (tb_jk 347 && tb_ckj 347) = true := by decide +kernel
theorem tb_c_347 : ((tb_Tf 347).all (tb_ck 347)) = true := by decide +kernel
theorem tb_jk_348 : (tb_jk 348 && tb_ckj 348) = true := by decide +kernel
theorem tb_c_348 : ((tb_Tf 348).all (tb_ck 348)) = true := by decide +kernel
theorem tb_jk_352 : (tb_jk 352 && tb_ckj 352) = true := by decide +kernel
theorem tb_c_352 : ((tb_Tf 352).all (tb_ck 352)) = true := by decide +kernel
theorem tb_jk_355 : (tb_jk 355 && tb_ckj 355) = true := by decide +kernel
theorem tb_c_355 : ((tb_Tf 355).all (tb_ck 355)) = true := by decide +kernel
theorem tb_jk_358 : (tb_jk 358 && tb_ckj 358) = true := by decide +kernel
theorem tb_c_358 : ((tb_Tf 358).all (tb_ck 358)) = true := by decide +kernel
theorem tb_jk_361 : (tb_jk 361 && tb_ckj 361) = true := by decide +kernel
theorem tb_c_361 : ((tb_Tf 361).all (tb_ck 361)) = true := by decide +kernel
theorem tb_jk_364 : (tb_jk 364 && tb_ckj 364) = true := by decide +kernel
theorem tb_c_364 : ((tb_Tf 364).all (tb_ck 364)) = true := by decide +kernel
theorem tb_jk_367 : (tb_jk 367 && tb_ckj 367) = true := by decide +kernel
theorem tb_c_367 : ((tb_Tf 367).all (tb_ck 367)) = true := by decide +kernel
theorem tb_jk_368 : (tb_jk 368 && tb_ckj 368) = true := by decide +kernel
theorem tb_c_368 : ((tb_Tf 368).all (tb_ck 368)) = true := by decide +kernel
theorem tb_jk_371 : (tb_jk 371 && tb_ckj 371) = true := by decide +kernel
theorem tb_c_371 : ((tb_Tf 371).all (tb_ck 371)) = true := by decide +kernel
theorem tb_jk_372 : (tb_jk 372 && tb_ckj 372) = true := by decide +kernel
theorem tb_c_372 : ((tb_Tf 372).all (tb_ck 372)) = true := by decide +kernel
theorem tb_jk_377 : (tb_jk 377 && tb_ckj 377) = true := by decide +kernel
theorem tb_c_377 : ((tb_Tf 377).all (tb_ck 377)) = true := by decide +kernel
theorem tb_jk_378 : (tb_jk 378 && tb_ckj 378) = true := by decide +kernel
theorem tb_c_378 : ((tb_Tf 378).all (tb_ck 378)) = true := by decide +kernel
theorem tb_jk_379 : (tb_jk 379 && tb_ckj 379) = true := by decide +kernel
theorem tb_c_379 : ((tb_Tf 379).all (tb_ck 379)) = true := by decide +kernel
theorem tb_jk_383 : (tb_jk 383 && tb_ckj 383) = true := by decide +kernel
theorem tb_c_383 : ((tb_Tf 383).all (tb_ck 383)) = true := by decide +kernel
theorem tb_jk_385 : (tb_jk 385 && tb_ckj 385) = true := by decide +kernel
theorem tb_c_385 : ((tb_Tf 385).all (tb_ck 385)) = true := by decide +kernel
theorem tb_jk_386 : (tb_jk 386 && tb_ckj 386) = true := by decide +kernel
theorem tb_c_386_0 : (tb_m386_0.all (tb_ck 386)) = true := by decide +kernel
theorem tb_c_386_1 : (tb_m386_1.all (tb_ck 386)) = true := by decide +kernel
theorem tb_c_386_2 : (tb_m386_2.all (tb_ck 386)) = true := by decide +kernel
theorem tb_c_386_3 : (tb_m386_3.all (tb_ck 386)) = true := by decide +kernel
theorem tb_c_386_4 : (tb_m386_4.all (tb_ck 386)) = true := by decide +kernel
theorem tb_c_386 : ((tb_Tf 386).all (tb_ck 386)) = true := by
  show (tb_m386.all (tb_ck 386)) = true
  simp only [tb_m386, List.all_append, tb_c_386_0, tb_c_386_1, tb_c_386_2, tb_c_386_3, tb_c_386_4, Bool.and_self]
theorem tb_jk_387 : (tb_jk 387 && tb_ckj 387) = true := by decide +kernel
theorem tb_c_387 : ((tb_Tf 387).all (tb_ck 387)) = true := by decide +kernel
theorem tb_jk_388 : (tb_jk 388 && tb_ckj 388) = true := by decide +kernel
theorem tb_c_388 : ((tb_Tf 388).all (tb_ck 388)) = true := by decide +kernel
theorem tb_jk_389 : (tb_jk 389 && tb_ckj 389) = true := by decide +kernel
theorem tb_c_389 : ((tb_Tf 389).all (tb_ck 389)) = true := by decide +kernel
theorem tb_jk_390 : (tb_jk 390 && tb_ckj 390) = true := by decide +kernel
theorem tb_c_390 : ((tb_Tf 390).all (tb_ck 390)) = true := by decide +kernel
theorem tb_jk_391 : (tb_jk 391 && tb_ckj 391) = true := by decide +kernel
theorem tb_c_391 : ((tb_Tf 391).all (tb_ck 391)) = true := by decide +kernel
theorem tb_jk_392 : (tb_jk 392 && tb_ckj 392) = true := by decide +kernel
theorem tb_c_392 : ((tb_Tf 392).all (tb_ck 392)) = true := by decide +kernel
theorem tb_jk_393 : (tb_jk 393 && tb_ckj 393) = true := by decide +kernel
theorem tb_c_393 : ((tb_Tf 393).all (tb_ck 393)) = true := by decide +kernel
theorem tb_jk_394 : (tb_jk 394 && tb_ckj 394) = true := by decide +kernel
theorem tb_c_394 : ((tb_Tf 394).all (tb_ck 394)) = true := by decide +kernel
theorem tb_jk_395 : (tb_jk 395 && tb_ckj 395) = true := by decide +kernel
theorem tb_c_395 : ((tb_Tf 395).all (tb_ck 395)) = true := by decide +kernel
theorem tb_jk_396 : (tb_jk 396 && tb_ckj 396) = true := by decide +kernel
theorem tb_c_396 : ((tb_Tf 396).all (tb_ck 396)) = true := by decide +kernel
theorem tb_jk_397 : (tb_jk 397 && tb_ckj 397) = true := by decide +kernel
theorem tb_c_397 : ((tb_Tf 397).all (tb_ck 397)) = true := by decide +kernel
theorem tb_jk_398 : (tb_jk 398 && tb_ckj 398) = true := by decide +kernel
theorem tb_c_398 : ((tb_Tf 398).all (tb_ck 398)) = true := by decide +kernel
theorem tb_jk_399 : (tb_jk 399 && tb_ckj 399) = true := by decide +kernel
theorem tb_c_399 : ((tb_Tf 399).all (tb_ck 399)) = true := by decide +kernel
theorem tb_jk_400 : (tb_jk 400 && tb_ckj 400) = true := by decide +kernel
theorem tb_c_400_0 : (tb_m400_0.all (tb_ck 400)) = true := by decide +kernel
theorem tb_c_400_1 : (tb_m400_1.all (tb_ck 400)) = true := by decide +kernel
theorem tb_c_400_2 : (tb_m400_2.all (tb_ck 400)) = true := by decide +kernel
theorem tb_c_400 : ((tb_Tf 400).all (tb_ck 400)) = true := by
  show (tb_m400.all (tb_ck 400)) = true
  simp only [tb_m400, List.all_append, tb_c_400_0, tb_c_400_1, tb_c_400_2, Bool.and_self]
theorem tb_jk_401 : (tb_jk 401 && tb_ckj 401) = true := by decide +kernel
theorem tb_c_401 : ((tb_Tf 401).all (tb_ck 401)) = true := by decide +kernel
theorem tb_jk_402 : (tb_jk 402 && tb_ckj 402) = true := by decide +kernel
theorem tb_c_402_0 : (tb_m402_0.all (tb_ck 402)) = true := by decide +kernel
theorem tb_c_402_1 : (tb_m402_1.all (tb_ck 402)) = true := by decide +kernel
theorem tb_c_402 : ((tb_Tf 402).all (tb_ck 402)) = true := by
  show (tb_m402.all (tb_ck 402)) = true
  simp only [tb_m402, List.all_append, tb_c_402_0, tb_c_402_1, Bool.and_self]
theorem tb_jk_403 : (tb_jk 403 && tb_ckj 403) = true := by decide +kernel
theorem tb_c_403_0 : (tb_m403_0.all (tb_ck 403)) = true := by decide +kernel
theorem tb_c_403_1 : (tb_m403_1.all (tb_ck 403)) = true := by decide +kernel
theorem tb_c_403_2 : (tb_m403_2.all (tb_ck 403)) = true := by decide +kernel
theorem tb_c_403 : ((tb_Tf 403).all (tb_ck 403)) = true := by
  show (tb_m403.all (tb_ck 403)) = true
  simp only [tb_m403, List.all_append, tb_c_403_0, tb_c_403_1, tb_c_403_2, Bool.and_self]
theorem tb_jk_404 : (tb_jk 404 && tb_ckj 404) = true := by decide +kernel
theorem tb_c_404 : ((tb_Tf 404).all (tb_ck 404)) = true := by decide +kernel
theorem tb_jk_405 : (tb_jk 405 && tb_ckj 405) = true := by decide +kernel
theorem tb_c_405 : ((tb_Tf 405).all (tb_ck 405)) = true := by decide +kernel
theorem tb_jk_406 : (tb_jk 406 && tb_ckj 406) = true := by decide +kernel
theorem tb_c_406 : ((tb_Tf 406).all (tb_ck 406)) = true := by decide +kernel
theorem tb_jk_407 : (tb_jk 407 && tb_ckj 407) = true := by decide +kernel
theorem tb_c_407 : ((tb_Tf 407).all (tb_ck 407)) = true := by decide +kernel
theorem tb_jk_408 : (tb_jk 408 && tb_ckj 408) = true := by decide +kernel
theorem tb_c_408_0 : (tb_m408_0.all (tb_ck 408)) = true := by decide +kernel
theorem tb_c_408_1 : (tb_m408_1.all (tb_ck 408)) = true := by decide +kernel
theorem tb_c_408 : ((tb_Tf 408).all (tb_ck 408)) = true := by
  show (tb_m408.all (tb_ck 408)) = true
  simp only [tb_m408, List.all_append, tb_c_408_0, tb_c_408_1, Bool.and_self]
theorem tb_jk_409 : (tb_jk 409 && tb_ckj 409) = true := by decide +kernel
theorem tb_c_409_0 : (tb_m409_0.all (tb_ck 409)) = true := by decide +kernel
theorem tb_c_409_1 : (tb_m409_1.all (tb_ck 409)) = true := by decide +kernel
theorem tb_c_409 : ((tb_Tf 409).all (tb_ck 409)) = true := by
  show (tb_m409.all (tb_ck 409)) = true
  simp only [tb_m409, List.all_append, tb_c_409_0, tb_c_409_1, Bool.and_self]
theorem tb_jk_410 : (tb_jk 410 && tb_ckj 410) = true := by decide +kernel
theorem tb_c_410 : ((tb_Tf 410).all (tb_ck 410)) = true := by decide +kernel
theorem tb_jk_411 : (tb_jk 411 && tb_ckj 411) = true := by decide +kernel
theorem tb_c_411 : ((tb_Tf 411).all (tb_ck 411)) = true := by decide +kernel
theorem tb_jk_412 : (tb_jk 412 && tb_ckj 412) = true := by decide +kernel
theorem tb_c_412_0 : (tb_m412_0.all (tb_ck 412)) = true := by decide +kernel
theorem tb_c_412_1 : (tb_m412_1.all (tb_ck 412)) = true := by decide +kernel
theorem tb_c_412_2 : (tb_m412_2.all (tb_ck 412)) = true := by decide +kernel
theorem tb_c_412_3 : (tb_m412_3.all (tb_ck 412)) = true := by decide +kernel
theorem tb_c_412_4 : (tb_m412_4.all (tb_ck 412)) = true := by decide +kernel
theorem tb_c_412_5 : (tb_m412_5.all (tb_ck 412)) = true := by decide +kernel
theorem tb_c_412_6 : (tb_m412_6.all (tb_ck 412)) = true := by decide +kernel
theorem tb_c_412_7 : (tb_m412_7.all (tb_ck 412)) = true := by decide +kernel
theorem tb_c_412 : ((tb_Tf 412).all (tb_ck 412)) = true := by
  show (tb_m412.all (tb_ck 412)) = true
  simp only [tb_m412, List.all_append, tb_c_412_0, tb_c_412_1, tb_c_412_2, tb_c_412_3, tb_c_412_4, tb_c_412_5, tb_c_412_6, tb_c_412_7, Bool.and_self]
theorem tb_jk_413 : (tb_jk 413 && tb_ckj 413) = true := by decide +kernel
theorem tb_c_413 : ((tb_Tf 413).all (tb_ck 413)) = true := by decide +kernel
theorem tb_jk_414 : (tb_jk 414 && tb_ckj 414) = true := by decide +kernel
theorem tb_c_414 : ((tb_Tf 414).all (tb_ck 414)) = true := by decide +kernel
theorem tb_jk_415 : (tb_jk 415 && tb_ckj 415) = true := by decide +kernel
theorem tb_c_415_0 : (tb_m415_0.all (tb_ck 415)) = true := by decide +kernel
theorem tb_c_415_1 : (tb_m415_1.all (tb_ck 415)) = true := by decide +kernel
theorem tb_c_415 : ((tb_Tf 415).all (tb_ck 415)) = true := by
  show (tb_m415.all (tb_ck 415)) = true
  simp only [tb_m415, List.all_append, tb_c_415_0, tb_c_415_1, Bool.and_self]
theorem tb_jk_416 : (tb_jk 416 && tb_ckj 416) = true := by decide +kernel
theorem tb_c_416_0 : (tb_m416_0.all (tb_ck 416)) = true := by decide +kernel
theorem tb_c_416_1 : (tb_m416_1.all (tb_ck 416)) = true := by decide +kernel
theorem tb_c_416 : ((tb_Tf 416).all (tb_ck 416)) = true := by
  show (tb_m416.all (tb_ck 416)) = true
  simp only [tb_m416, List.all_append, tb_c_416_0, tb_c_416_1, Bool.and_self]
theorem tb_jk_417 : (tb_jk 417 && tb_ckj 417) = true := by decide +kernel
theorem tb_c_417_0 : (tb_m417_0.all (tb_ck 417)) = true := by decide +kernel
theorem tb_c_417_1 : (tb_m417_1.all (tb_ck 417)) = true := by decide +kernel
theorem tb_c_417 : ((tb_Tf 417).all (tb_ck 417)) = true := by
  show (tb_m417.all (tb_ck 417)) = true
  simp only [tb_m417, List.all_append, tb_c_417_0, tb_c_417_1, Bool.and_self]
theorem tb_jk_418 : (tb_jk 418 && tb_ckj 418) = true := by decide +kernel
theorem tb_c_418_0 : (tb_m418_0.all (tb_ck 418)) = true := by decide +kernel
theorem tb_c_418_1 : (tb_m418_1.all (tb_ck 418)) = true := by decide +kernel
theorem tb_c_418 : ((tb_Tf 418).all (tb_ck 418)) = true := by
  show (tb_m418.all (tb_ck 418)) = true
  simp only [tb_m418, List.all_append, tb_c_418_0, tb_c_418_1, Bool.and_self]
theorem tb_jk_419 : (tb_jk 419 && tb_ckj 419) = true := by decide +kernel
theorem tb_c_419 : ((tb_Tf 419).all (tb_ck 419)) = true := by decide +kernel
theorem tb_jk_420 : (tb_jk 420 && tb_ckj 420) = true := by decide +kernel
theorem tb_c_420_0 : (tb_m420_0.all (tb_ck 420)) = true := by decide +kernel
theorem tb_c_420_1 : (tb_m420_1.all (tb_ck 420)) = true := by decide +kernel
theorem tb_c_420_2 : (tb_m420_2.all (tb_ck 420)) = true := by decide +kernel
theorem tb_c_420_3 : (tb_m420_3.all (tb_ck 420)) = true := by decide +kernel
theorem tb_c_420 : ((tb_Tf 420).all (tb_ck 420)) = true := by
  show (tb_m420.all (tb_ck 420)) = true
  simp only [tb_m420, List.all_append, tb_c_420_0, tb_c_420_1, tb_c_420_2, tb_c_420_3, Bool.and_self]
theorem tb_jk_421 : (tb_jk 421 && tb_ckj 421) = true := by decide +kernel
theorem tb_c_421 : ((tb_Tf 421).all (tb_ck 421)) = true := by decide +kernel
theorem tb_jk_422 : (tb_jk 422 && tb_ckj 422) = true := by decide +kernel
theorem tb_c_422 : ((tb_Tf 422).all (tb_ck 422)) = true := by decide +kernel
theorem tb_ok_r300 {j : Nat} (hg : tb_gh j = false) (h1 : 300 ≤ j) (h2 : j < 320) : (tb_jk j && tb_ckj j) = true ∧ ((tb_Tf j).all (tb_ck j)) = true := by
  have h : j = 300 ∨ j = 301 ∨ j = 302 ∨ j = 303 ∨ j = 304 ∨ j = 305 ∨ j = 306 ∨ j = 307 ∨ j = 308 ∨ j = 309 ∨ j = 310 ∨ j = 311 ∨ j = 312 ∨ j = 313 ∨ j = 314 ∨ j = 315 ∨ j = 316 ∨ j = 317 ∨ j = 318 ∨ j = 319 := by omega
  rcases h with rfl | rfl | rfl | rfl | rfl | rfl | rfl | rfl | rfl | rfl | rfl | rfl | rfl | rfl | rfl | rfl | rfl | rfl | rfl | rfl
  · exact ⟨tb_jk_300, tb_c_300⟩
  · exact ⟨tb_jk_301, tb_c_301⟩
  · exact ⟨tb_jk_302, tb_c_302⟩
  · exact ⟨tb_jk_303, tb_c_303⟩
  · exact ⟨tb_jk_304, tb_c_304⟩
  · exact ⟨tb_jk_305, tb_c_305⟩
  · exact ⟨tb_jk_306, tb_c_306⟩
  · exact ⟨tb_jk_307, tb_c_307⟩
  · exact ⟨tb_jk_308, tb_c_308⟩
  · exact ⟨tb_jk_309, tb_c_309⟩
  · exact ⟨tb_jk_310, tb_c_310⟩
  · exact ⟨tb_jk_311, tb_c_311⟩
  · exact ⟨tb_jk_312, tb_c_312⟩
  · exact ⟨tb_jk_313, tb_c_313⟩
  · exact ⟨tb_jk_314, tb_c_314⟩
  · exact ⟨tb_jk_315, tb_c_315⟩
  · exact ⟨tb_jk_316, tb_c_316⟩
  · exact ⟨tb_jk_317, tb_c_317⟩
  · exact ⟨tb_jk_318, tb_c_318⟩
  · exact ⟨tb_jk_319, tb_c_319⟩
theorem tb_ok_r320 {j : Nat} (hg : tb_gh j = false) (h1 : 320 ≤ j) (h2 : j < 340) : (tb_jk j && tb_ckj j) = true ∧ ((tb_Tf j).all (tb_ck j)) = true := by
  have h : j = 320 ∨ j = 321 ∨ j = 322 ∨ j = 323 ∨ j = 324 ∨ j = 325 ∨ j = 326 ∨ j = 327 ∨ j = 328 ∨ j = 329 ∨ j = 330 ∨ j = 331 ∨ j = 332 ∨ j = 333 ∨ j = 334 ∨ j = 335 ∨ j = 336 ∨ j = 337 ∨ j = 338 ∨ j = 339 := by omega
  rcases h with rfl | rfl | rfl | rfl | rfl | rfl | rfl | rfl | rfl | rfl | rfl | rfl | rfl | rfl | rfl | rfl | rfl | rfl | rfl | rfl
  · exact ⟨tb_jk_320, tb_c_320⟩
  · exact ⟨tb_jk_321, tb_c_321⟩
  · exact ⟨tb_jk_322, tb_c_322⟩
  · exact ⟨tb_jk_323, tb_c_323⟩
  · exact ⟨tb_jk_324, tb_c_324⟩
  · exact ⟨tb_jk_325, tb_c_325⟩
  · exact absurd hg (by decide)
  · exact absurd hg (by decide)
  · exact absurd hg (by decide)
  · exact absurd hg (by decide)
  · exact absurd hg (by decide)
  · exact absurd hg (by decide)
  · exact absurd hg (by decide)
  · exact absurd hg (by decide)
  · exact absurd hg (by decide)
  · exact absurd hg (by decide)
  · exact ⟨tb_jk_336, tb_c_336⟩
  · exact ⟨tb_jk_337, tb_c_337⟩
  · exact ⟨tb_jk_338, tb_c_338⟩
  · exact absurd hg (by decide)
theorem tb_ok_r340 {j : Nat} (hg : tb_gh j = false) (h1 : 340 ≤ j) (h2 : j < 360) : (tb_jk j && tb_ckj j) = true ∧ ((tb_Tf j).all (tb_ck j)) = true := by
  have h : j = 340 ∨ j = 341 ∨ j = 342 ∨ j = 343 ∨ j = 344 ∨ j = 345 ∨ j = 346 ∨ j = 347 ∨ j = 348 ∨ j = 349 ∨ j = 350 ∨ j = 351 ∨ j = 352 ∨ j = 353 ∨ j = 354 ∨ j = 355 ∨ j = 356 ∨ j = 357 ∨ j = 358 ∨ j = 359 := by omega
  rcases h with rfl | rfl | rfl | rfl | rfl | rfl | rfl | rfl | rfl | rfl | rfl | rfl | rfl | rfl | rfl | rfl | rfl | rfl | rfl | rfl
  · exact absurd hg (by decide)
  · exact absurd hg (by decide)
  · exact ⟨tb_jk_342, tb_c_342⟩
  · exact ⟨tb_jk_343, tb_c_343⟩
  · exact ⟨tb_jk_344, tb_c_344⟩
  · exact absurd hg (by decide)
  · exact absurd hg (by decide)
  · exact ⟨tb_jk_347, tb_c_347⟩
  · exact ⟨tb_jk_348, tb_c_348⟩
  · exact absurd hg (by decide)
  · exact absurd hg (by decide)
  · exact absurd hg (by decide)
  · exact ⟨tb_jk_352, tb_c_352⟩
  · exact absurd hg (by decide)
  · exact absurd hg (by decide)
  · exact ⟨tb_jk_355, tb_c_355⟩
  · exact absurd hg (by decide)
  · exact absurd hg (by decide)
  · exact ⟨tb_jk_358, tb_c_358⟩
  · exact absurd hg (by decide)
theorem tb_ok_r360 {j : Nat} (hg : tb_gh j = false) (h1 : 360 ≤ j) (h2 : j < 380) : (tb_jk j && tb_ckj j) = true ∧ ((tb_Tf j).all (tb_ck j)) = true := by
  have h : j = 360 ∨ j = 361 ∨ j = 362 ∨ j = 363 ∨ j = 364 ∨ j = 365 ∨ j = 366 ∨ j = 367 ∨ j = 368 ∨ j = 369 ∨ j = 370 ∨ j = 371 ∨ j = 372 ∨ j = 373 ∨ j = 374 ∨ j = 375 ∨ j = 376 ∨ j = 377 ∨ j = 378 ∨ j = 379 := by omega
  rcases h with rfl | rfl | rfl | rfl | rfl | rfl | rfl | rfl | rfl | rfl | rfl | rfl | rfl | rfl | rfl | rfl | rfl | rfl | rfl | rfl
  · exact absurd hg (by decide)
  · exact ⟨tb_jk_361, tb_c_361⟩
  · exact absurd hg (by decide)
  · exact absurd hg (by decide)
  · exact ⟨tb_jk_364, tb_c_364⟩
  · exact absurd hg (by decide)
  · exact absurd hg (by decide)
  · exact ⟨tb_jk_367, tb_c_367⟩
  · exact ⟨tb_jk_368, tb_c_368⟩
  · exact absurd hg (by decide)
  · exact absurd hg (by decide)
  · exact ⟨tb_jk_371, tb_c_371⟩
  · exact ⟨tb_jk_372, tb_c_372⟩
  · exact absurd hg (by decide)
  · exact absurd hg (by decide)
  · exact absurd hg (by decide)
  · exact absurd hg (by decide)
  · exact ⟨tb_jk_377, tb_c_377⟩
  · exact ⟨tb_jk_378, tb_c_378⟩
  · exact ⟨tb_jk_379, tb_c_379⟩
theorem tb_ok_r380 {j : Nat} (hg : tb_gh j = false) (h1 : 380 ≤ j) (h2 : j < 400) : (tb_jk j && tb_ckj j) = true ∧ ((tb_Tf j).all (tb_ck j)) = true := by
  have h : j = 380 ∨ j = 381 ∨ j = 382 ∨ j = 383 ∨ j = 384 ∨ j = 385 ∨ j = 386 ∨ j = 387 ∨ j = 388 ∨ j = 389 ∨ j = 390 ∨ j = 391 ∨ j = 392 ∨ j = 393 ∨ j = 394 ∨ j = 395 ∨ j = 396 ∨ j = 397 ∨ j = 398 ∨ j = 399 := by omega
  rcases h with rfl | rfl | rfl | rfl | rfl | rfl | rfl | rfl | rfl | rfl | rfl | rfl | rfl | rfl | rfl | rfl | rfl | rfl | rfl | rfl
  · exact absurd hg (by decide)
  · exact absurd hg (by decide)
  · exact absurd hg (by decide)
  · exact ⟨tb_jk_383, tb_c_383⟩
  · exact absurd hg (by decide)
  · exact ⟨tb_jk_385, tb_c_385⟩
  · exact ⟨tb_jk_386, tb_c_386⟩
  · exact ⟨tb_jk_387, tb_c_387⟩
  · exact ⟨tb_jk_388, tb_c_388⟩
  · exact ⟨tb_jk_389, tb_c_389⟩
  · exact ⟨tb_jk_390, tb_c_390⟩
  · exact ⟨tb_jk_391, tb_c_391⟩
  · exact ⟨tb_jk_392, tb_c_392⟩
  · exact ⟨tb_jk_393, tb_c_393⟩
  · exact ⟨tb_jk_394, tb_c_394⟩
  · exact ⟨tb_jk_395, tb_c_395⟩
  · exact ⟨tb_jk_396, tb_c_396⟩
  · exact ⟨tb_jk_397, tb_c_397⟩
  · exact ⟨tb_jk_398, tb_c_398⟩
  · exact ⟨tb_jk_399, tb_c_399⟩
theorem tb_ok_r400 {j : Nat} (hg : tb_gh j = false) (h1 : 400 ≤ j) (h2 : j < 420) : (tb_jk j && tb_ckj j) = true ∧ ((tb_Tf j).all (tb_ck j)) = true := by
  have h : j = 400 ∨ j = 401 ∨ j = 402 ∨ j = 403 ∨ j = 404 ∨ j = 405 ∨ j = 406 ∨ j = 407 ∨ j = 408 ∨ j = 409 ∨ j = 410 ∨ j = 411 ∨ j = 412 ∨ j = 413 ∨ j = 414 ∨ j = 415 ∨ j = 416 ∨ j = 417 ∨ j = 418 ∨ j = 419 := by omega
  rcases h with rfl | rfl | rfl | rfl | rfl | rfl | rfl | rfl | rfl | rfl | rfl | rfl | rfl | rfl | rfl | rfl | rfl | rfl | rfl | rfl
  · exact ⟨tb_jk_400, tb_c_400⟩
  · exact ⟨tb_jk_401, tb_c_401⟩
  · exact ⟨tb_jk_402, tb_c_402⟩
  · exact ⟨tb_jk_403, tb_c_403⟩
  · exact ⟨tb_jk_404, tb_c_404⟩
  · exact ⟨tb_jk_405, tb_c_405⟩
  · exact ⟨tb_jk_406, tb_c_406⟩
  · exact ⟨tb_jk_407, tb_c_407⟩
  · exact ⟨tb_jk_408, tb_c_408⟩
  · exact ⟨tb_jk_409, tb_c_409⟩
  · exact ⟨tb_jk_410, tb_c_410⟩
  · exact ⟨tb_jk_411, tb_c_411⟩
  · exact ⟨tb_jk_412, tb_c_412⟩
  · exact ⟨tb_jk_413, tb_c_413⟩
  · exact ⟨tb_jk_414, tb_c_414⟩
  · exact ⟨tb_jk_415, tb_c_415⟩
  · exact ⟨tb_jk_416, tb_c_416⟩
  · exact ⟨tb_jk_417, tb_c_417⟩
  · exact ⟨tb_jk_418, tb_c_418⟩
  · exact ⟨tb_jk_419, tb_c_419⟩
theorem tb_ok_r420 {j : Nat} (hg : tb_gh j = false) (h1 : 420 ≤ j) (h2 : j < 423) : (tb_jk j && tb_ckj j) = true ∧ ((tb_Tf j).all (tb_ck j)) = true := by
  have h : j = 420 ∨ j = 421 ∨ j = 422 := by omega
  rcases h with rfl | rfl | rfl
  · exact ⟨tb_jk_420, tb_c_420⟩
  · exact ⟨tb_jk_421, tb_c_421⟩
  · exact ⟨tb_jk_422, tb_c_422⟩
theorem tb_okC {j : Nat} (hg : tb_gh j = false) (h1 : 300 ≤ j) (h2 : j < 423) : (tb_jk j && tb_ckj j) = true ∧ ((tb_Tf j).all (tb_ck j)) = true := by
  rcases Nat.lt_or_ge j 320 with h | h
  · exact tb_ok_r300 hg (by omega) h
  rcases Nat.lt_or_ge j 340 with h | h
  · exact tb_ok_r320 hg (by omega) h
  rcases Nat.lt_or_ge j 360 with h | h
  · exact tb_ok_r340 hg (by omega) h
  rcases Nat.lt_or_ge j 380 with h | h
  · exact tb_ok_r360 hg (by omega) h
  rcases Nat.lt_or_ge j 400 with h | h
  · exact tb_ok_r380 hg (by omega) h
  rcases Nat.lt_or_ge j 420 with h | h
  · exact tb_ok_r400 hg (by omega) h
  rcases Nat.lt_or_ge j 423 with h | h
  · exact tb_ok_r420 hg (by omega) h
  exact absurd h2 (by omega)
