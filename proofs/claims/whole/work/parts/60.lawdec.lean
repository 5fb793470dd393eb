theorem dL_law__0 : decode cL_law_ 0 = .ok (.new 8, 3) := by decide +kernel
theorem dL_law__3 : decode cL_law_ 3 = .ok (.dup, 1) := by decide +kernel
theorem dL_law__4 : decode cL_law_ 4 = .ok (.invokespecial 130, 3) := by decide +kernel
theorem dL_law__7 : decode cL_law_ 7 = .ok (.astore_n 1, 1) := by decide +kernel
theorem dL_law__8 : decode cL_law_ 8 = .ok (.new 131, 3) := by decide +kernel
theorem dL_law__11 : decode cL_law_ 11 = .ok (.dup, 1) := by decide +kernel
theorem dL_law__12 : decode cL_law_ 12 = .ok (.invokespecial 133, 3) := by decide +kernel
theorem dL_law__15 : decode cL_law_ 15 = .ok (.astore_n 2, 1) := by decide +kernel
theorem dL_law__16 : decode cL_law_ 16 = .ok (.iconst 1, 1) := by decide +kernel
theorem dL_law__17 : decode cL_law_ 17 = .ok (.newarray .long, 2) := by decide +kernel
theorem dL_law__19 : decode cL_law_ 19 = .ok (.astore_n 3, 1) := by decide +kernel
theorem dL_law__20 : decode cL_law_ 20 = .ok (.iconst 0, 1) := by decide +kernel
theorem dL_law__21 : decode cL_law_ 21 = .ok (.istore 4, 2) := by decide +kernel
theorem dL_law__23 : decode cL_law_ 23 = .ok (.iload 4, 2) := by decide +kernel
theorem dL_law__25 : decode cL_law_ 25 = .ok (.aload_n 0, 1) := by decide +kernel
theorem dL_law__26 : decode cL_law_ 26 = .ok (.arraylength, 1) := by decide +kernel
theorem dL_law__27 : decode cL_law_ 27 = .ok (.bipush 6, 2) := by decide +kernel
theorem dL_law__29 : decode cL_law_ 29 = .ok (.isub, 1) := by decide +kernel
theorem dL_law__30 : decode cL_law_ 30 = .ok (.if_icmp .gt 2899, 3) := by decide +kernel
theorem dL_law__33 : decode cL_law_ 33 = .ok (.aload_n 0, 1) := by decide +kernel
theorem dL_law__34 : decode cL_law_ 34 = .ok (.iload 4, 2) := by decide +kernel
theorem dL_law__36 : decode cL_law_ 36 = .ok (.iaload, 1) := by decide +kernel
theorem dL_law__37 : decode cL_law_ 37 = .ok (.bipush 63, 2) := by decide +kernel
theorem dL_law__39 : decode cL_law_ 39 = .ok (.iand, 1) := by decide +kernel
theorem dL_law__40 : decode cL_law_ 40 = .ok (.tableswitch 2883 0 39 #[176, 256, 348, 416, 484, 557, 625, 681, 706, 762, 818, 886, 942, 1009, 1065, 1078, 1162, 1265, 1279, 1293, 1349, 1469, 1549, 1629, 1697, 1801, 1920, 2012, 2104, 2208, 2283, 2363, 2374, 2466, 2558, 2614, 2674, 2785, 2821, 2857], 176) := by decide +kernel
theorem dL_law__216 : decode cL_law_ 216 = .ok (.aload_n 1, 1) := by decide +kernel
theorem dL_law__217 : decode cL_law_ 217 = .ok (.aload_n 0, 1) := by decide +kernel
theorem dL_law__218 : decode cL_law_ 218 = .ok (.iload 4, 2) := by decide +kernel
theorem dL_law__220 : decode cL_law_ 220 = .ok (.iconst 1, 1) := by decide +kernel
theorem dL_law__221 : decode cL_law_ 221 = .ok (.iadd, 1) := by decide +kernel
theorem dL_law__222 : decode cL_law_ 222 = .ok (.iaload, 1) := by decide +kernel
theorem dL_law__223 : decode cL_law_ 223 = .ok (.aload_n 0, 1) := by decide +kernel
theorem dL_law__224 : decode cL_law_ 224 = .ok (.iload 4, 2) := by decide +kernel
theorem dL_law__226 : decode cL_law_ 226 = .ok (.iconst 2, 1) := by decide +kernel
theorem dL_law__227 : decode cL_law_ 227 = .ok (.iadd, 1) := by decide +kernel
theorem dL_law__228 : decode cL_law_ 228 = .ok (.iaload, 1) := by decide +kernel
theorem dL_law__229 : decode cL_law_ 229 = .ok (.aload_n 0, 1) := by decide +kernel
theorem dL_law__230 : decode cL_law_ 230 = .ok (.iload 4, 2) := by decide +kernel
theorem dL_law__232 : decode cL_law_ 232 = .ok (.iconst 3, 1) := by decide +kernel
theorem dL_law__233 : decode cL_law_ 233 = .ok (.iadd, 1) := by decide +kernel
theorem dL_law__234 : decode cL_law_ 234 = .ok (.iaload, 1) := by decide +kernel
theorem dL_law__235 : decode cL_law_ 235 = .ok (.aload_n 3, 1) := by decide +kernel
theorem dL_law__236 : decode cL_law_ 236 = .ok (.invokestatic 134, 3) := by decide +kernel
theorem dL_law__239 : decode cL_law_ 239 = .ok (.istore 5, 2) := by decide +kernel
theorem dL_law__241 : decode cL_law_ 241 = .ok (.aload_n 2, 1) := by decide +kernel
theorem dL_law__242 : decode cL_law_ 242 = .ok (.aload_n 0, 1) := by decide +kernel
theorem dL_law__243 : decode cL_law_ 243 = .ok (.iload 4, 2) := by decide +kernel
theorem dL_law__245 : decode cL_law_ 245 = .ok (.iconst 1, 1) := by decide +kernel
theorem dL_law__246 : decode cL_law_ 246 = .ok (.iadd, 1) := by decide +kernel
theorem dL_law__247 : decode cL_law_ 247 = .ok (.iaload, 1) := by decide +kernel
theorem dL_law__248 : decode cL_law_ 248 = .ok (.aload_n 0, 1) := by decide +kernel
theorem dL_law__249 : decode cL_law_ 249 = .ok (.iload 4, 2) := by decide +kernel
theorem dL_law__251 : decode cL_law_ 251 = .ok (.iconst 2, 1) := by decide +kernel
theorem dL_law__252 : decode cL_law_ 252 = .ok (.iadd, 1) := by decide +kernel
theorem dL_law__253 : decode cL_law_ 253 = .ok (.iaload, 1) := by decide +kernel
theorem dL_law__254 : decode cL_law_ 254 = .ok (.aload_n 0, 1) := by decide +kernel
theorem dL_law__255 : decode cL_law_ 255 = .ok (.iload 4, 2) := by decide +kernel
theorem dL_law__257 : decode cL_law_ 257 = .ok (.iconst 3, 1) := by decide +kernel
theorem dL_law__258 : decode cL_law_ 258 = .ok (.iadd, 1) := by decide +kernel
theorem dL_law__259 : decode cL_law_ 259 = .ok (.iaload, 1) := by decide +kernel
theorem dL_law__260 : decode cL_law_ 260 = .ok (.invokevirtual 139, 3) := by decide +kernel
theorem dL_law__263 : decode cL_law_ 263 = .ok (.istore 6, 2) := by decide +kernel
theorem dL_law__265 : decode cL_law_ 265 = .ok (.aload_n 2, 1) := by decide +kernel
theorem dL_law__266 : decode cL_law_ 266 = .ok (.invokevirtual 140, 3) := by decide +kernel
theorem dL_law__269 : decode cL_law_ 269 = .ok (.iload 5, 2) := by decide +kernel
theorem dL_law__271 : decode cL_law_ 271 = .ok (.if_icmp .eq 5, 3) := by decide +kernel
theorem dL_law__274 : decode cL_law_ 274 = .ok (.iconst 0, 1) := by decide +kernel
theorem dL_law__275 : decode cL_law_ 275 = .ok (.ireturn, 1) := by decide +kernel
theorem dL_law__276 : decode cL_law_ 276 = .ok (.iload 5, 2) := by decide +kernel
theorem dL_law__278 : decode cL_law_ 278 = .ok (.ifCond .ne 15, 3) := by decide +kernel
theorem dL_law__281 : decode cL_law_ 281 = .ok (.aload_n 3, 1) := by decide +kernel
theorem dL_law__282 : decode cL_law_ 282 = .ok (.iconst 0, 1) := by decide +kernel
theorem dL_law__283 : decode cL_law_ 283 = .ok (.laload, 1) := by decide +kernel
theorem dL_law__284 : decode cL_law_ 284 = .ok (.iload 6, 2) := by decide +kernel
theorem dL_law__286 : decode cL_law_ 286 = .ok (.i2l, 1) := by decide +kernel
theorem dL_law__287 : decode cL_law_ 287 = .ok (.lcmp, 1) := by decide +kernel
theorem dL_law__288 : decode cL_law_ 288 = .ok (.ifCond .eq 5, 3) := by decide +kernel
theorem dL_law__291 : decode cL_law_ 291 = .ok (.iconst 0, 1) := by decide +kernel
theorem dL_law__292 : decode cL_law_ 292 = .ok (.ireturn, 1) := by decide +kernel
theorem dL_law__293 : decode cL_law_ 293 = .ok (.goto 2630, 3) := by decide +kernel
theorem dL_law__296 : decode cL_law_ 296 = .ok (.aload_n 1, 1) := by decide +kernel
theorem dL_law__297 : decode cL_law_ 297 = .ok (.aload_n 0, 1) := by decide +kernel
theorem dL_law__298 : decode cL_law_ 298 = .ok (.iload 4, 2) := by decide +kernel
theorem dL_law__300 : decode cL_law_ 300 = .ok (.iconst 1, 1) := by decide +kernel
theorem dL_law__301 : decode cL_law_ 301 = .ok (.iadd, 1) := by decide +kernel
theorem dL_law__302 : decode cL_law_ 302 = .ok (.iaload, 1) := by decide +kernel
theorem dL_law__303 : decode cL_law_ 303 = .ok (.aload_n 0, 1) := by decide +kernel
theorem dL_law__304 : decode cL_law_ 304 = .ok (.iload 4, 2) := by decide +kernel
theorem dL_law__306 : decode cL_law_ 306 = .ok (.iconst 2, 1) := by decide +kernel
theorem dL_law__307 : decode cL_law_ 307 = .ok (.iadd, 1) := by decide +kernel
theorem dL_law__308 : decode cL_law_ 308 = .ok (.iaload, 1) := by decide +kernel
theorem dL_law__309 : decode cL_law_ 309 = .ok (.aload_n 0, 1) := by decide +kernel
theorem dL_law__310 : decode cL_law_ 310 = .ok (.iload 4, 2) := by decide +kernel
theorem dL_law__312 : decode cL_law_ 312 = .ok (.iconst 3, 1) := by decide +kernel
theorem dL_law__313 : decode cL_law_ 313 = .ok (.iadd, 1) := by decide +kernel
theorem dL_law__314 : decode cL_law_ 314 = .ok (.iaload, 1) := by decide +kernel
theorem dL_law__315 : decode cL_law_ 315 = .ok (.aload_n 0, 1) := by decide +kernel
theorem dL_law__316 : decode cL_law_ 316 = .ok (.iload 4, 2) := by decide +kernel
theorem dL_law__318 : decode cL_law_ 318 = .ok (.iconst 4, 1) := by decide +kernel
theorem dL_law__319 : decode cL_law_ 319 = .ok (.iadd, 1) := by decide +kernel
theorem dL_law__320 : decode cL_law_ 320 = .ok (.iaload, 1) := by decide +kernel
theorem dL_law__321 : decode cL_law_ 321 = .ok (.aload_n 3, 1) := by decide +kernel
theorem dL_law__322 : decode cL_law_ 322 = .ok (.invokestatic 144, 3) := by decide +kernel
theorem dL_law__325 : decode cL_law_ 325 = .ok (.istore 5, 2) := by decide +kernel
theorem dL_law__327 : decode cL_law_ 327 = .ok (.aload_n 2, 1) := by decide +kernel
theorem dL_law__328 : decode cL_law_ 328 = .ok (.aload_n 0, 1) := by decide +kernel
theorem dL_law__329 : decode cL_law_ 329 = .ok (.iload 4, 2) := by decide +kernel
theorem dL_law__331 : decode cL_law_ 331 = .ok (.iconst 1, 1) := by decide +kernel
theorem dL_law__332 : decode cL_law_ 332 = .ok (.iadd, 1) := by decide +kernel
theorem dL_law__333 : decode cL_law_ 333 = .ok (.iaload, 1) := by decide +kernel
theorem dL_law__334 : decode cL_law_ 334 = .ok (.aload_n 0, 1) := by decide +kernel
theorem dL_law__335 : decode cL_law_ 335 = .ok (.iload 4, 2) := by decide +kernel
theorem dL_law__337 : decode cL_law_ 337 = .ok (.iconst 2, 1) := by decide +kernel
theorem dL_law__338 : decode cL_law_ 338 = .ok (.iadd, 1) := by decide +kernel
theorem dL_law__339 : decode cL_law_ 339 = .ok (.iaload, 1) := by decide +kernel
theorem dL_law__340 : decode cL_law_ 340 = .ok (.aload_n 0, 1) := by decide +kernel
theorem dL_law__341 : decode cL_law_ 341 = .ok (.iload 4, 2) := by decide +kernel
theorem dL_law__343 : decode cL_law_ 343 = .ok (.iconst 3, 1) := by decide +kernel
theorem dL_law__344 : decode cL_law_ 344 = .ok (.iadd, 1) := by decide +kernel
theorem dL_law__345 : decode cL_law_ 345 = .ok (.iaload, 1) := by decide +kernel
theorem dL_law__346 : decode cL_law_ 346 = .ok (.aload_n 0, 1) := by decide +kernel
theorem dL_law__347 : decode cL_law_ 347 = .ok (.iload 4, 2) := by decide +kernel
theorem dL_law__349 : decode cL_law_ 349 = .ok (.iconst 4, 1) := by decide +kernel
theorem dL_law__350 : decode cL_law_ 350 = .ok (.iadd, 1) := by decide +kernel
theorem dL_law__351 : decode cL_law_ 351 = .ok (.iaload, 1) := by decide +kernel
theorem dL_law__352 : decode cL_law_ 352 = .ok (.invokevirtual 147, 3) := by decide +kernel
theorem dL_law__355 : decode cL_law_ 355 = .ok (.istore 6, 2) := by decide +kernel
theorem dL_law__357 : decode cL_law_ 357 = .ok (.aload_n 2, 1) := by decide +kernel
theorem dL_law__358 : decode cL_law_ 358 = .ok (.invokevirtual 140, 3) := by decide +kernel
theorem dL_law__361 : decode cL_law_ 361 = .ok (.iload 5, 2) := by decide +kernel
theorem dL_law__363 : decode cL_law_ 363 = .ok (.if_icmp .eq 5, 3) := by decide +kernel
theorem dL_law__366 : decode cL_law_ 366 = .ok (.iconst 0, 1) := by decide +kernel
theorem dL_law__367 : decode cL_law_ 367 = .ok (.ireturn, 1) := by decide +kernel
theorem dL_law__368 : decode cL_law_ 368 = .ok (.iload 5, 2) := by decide +kernel
theorem dL_law__370 : decode cL_law_ 370 = .ok (.ifCond .ne 15, 3) := by decide +kernel
theorem dL_law__373 : decode cL_law_ 373 = .ok (.aload_n 3, 1) := by decide +kernel
theorem dL_law__374 : decode cL_law_ 374 = .ok (.iconst 0, 1) := by decide +kernel
theorem dL_law__375 : decode cL_law_ 375 = .ok (.laload, 1) := by decide +kernel
theorem dL_law__376 : decode cL_law_ 376 = .ok (.iload 6, 2) := by decide +kernel
theorem dL_law__378 : decode cL_law_ 378 = .ok (.i2l, 1) := by decide +kernel
theorem dL_law__379 : decode cL_law_ 379 = .ok (.lcmp, 1) := by decide +kernel
theorem dL_law__380 : decode cL_law_ 380 = .ok (.ifCond .eq 5, 3) := by decide +kernel
theorem dL_law__383 : decode cL_law_ 383 = .ok (.iconst 0, 1) := by decide +kernel
theorem dL_law__384 : decode cL_law_ 384 = .ok (.ireturn, 1) := by decide +kernel
theorem dL_law__385 : decode cL_law_ 385 = .ok (.goto 2538, 3) := by decide +kernel
theorem dL_law__388 : decode cL_law_ 388 = .ok (.aload_n 1, 1) := by decide +kernel
theorem dL_law__389 : decode cL_law_ 389 = .ok (.aload_n 0, 1) := by decide +kernel
theorem dL_law__390 : decode cL_law_ 390 = .ok (.iload 4, 2) := by decide +kernel
theorem dL_law__392 : decode cL_law_ 392 = .ok (.iconst 1, 1) := by decide +kernel
theorem dL_law__393 : decode cL_law_ 393 = .ok (.iadd, 1) := by decide +kernel
theorem dL_law__394 : decode cL_law_ 394 = .ok (.iaload, 1) := by decide +kernel
theorem dL_law__395 : decode cL_law_ 395 = .ok (.aload_n 0, 1) := by decide +kernel
theorem dL_law__396 : decode cL_law_ 396 = .ok (.iload 4, 2) := by decide +kernel
theorem dL_law__398 : decode cL_law_ 398 = .ok (.iconst 2, 1) := by decide +kernel
theorem dL_law__399 : decode cL_law_ 399 = .ok (.iadd, 1) := by decide +kernel
theorem dL_law__400 : decode cL_law_ 400 = .ok (.iaload, 1) := by decide +kernel
theorem dL_law__401 : decode cL_law_ 401 = .ok (.aload_n 3, 1) := by decide +kernel
theorem dL_law__402 : decode cL_law_ 402 = .ok (.invokestatic 148, 3) := by decide +kernel
theorem dL_law__405 : decode cL_law_ 405 = .ok (.istore 5, 2) := by decide +kernel
theorem dL_law__407 : decode cL_law_ 407 = .ok (.aload_n 2, 1) := by decide +kernel
theorem dL_law__408 : decode cL_law_ 408 = .ok (.aload_n 0, 1) := by decide +kernel
theorem dL_law__409 : decode cL_law_ 409 = .ok (.iload 4, 2) := by decide +kernel
theorem dL_law__411 : decode cL_law_ 411 = .ok (.iconst 1, 1) := by decide +kernel
theorem dL_law__412 : decode cL_law_ 412 = .ok (.iadd, 1) := by decide +kernel
theorem dL_law__413 : decode cL_law_ 413 = .ok (.iaload, 1) := by decide +kernel
theorem dL_law__414 : decode cL_law_ 414 = .ok (.aload_n 0, 1) := by decide +kernel
theorem dL_law__415 : decode cL_law_ 415 = .ok (.iload 4, 2) := by decide +kernel
theorem dL_law__417 : decode cL_law_ 417 = .ok (.iconst 2, 1) := by decide +kernel
theorem dL_law__418 : decode cL_law_ 418 = .ok (.iadd, 1) := by decide +kernel
theorem dL_law__419 : decode cL_law_ 419 = .ok (.iaload, 1) := by decide +kernel
theorem dL_law__420 : decode cL_law_ 420 = .ok (.invokevirtual 151, 3) := by decide +kernel
theorem dL_law__423 : decode cL_law_ 423 = .ok (.istore 6, 2) := by decide +kernel
theorem dL_law__425 : decode cL_law_ 425 = .ok (.aload_n 2, 1) := by decide +kernel
theorem dL_law__426 : decode cL_law_ 426 = .ok (.invokevirtual 140, 3) := by decide +kernel
theorem dL_law__429 : decode cL_law_ 429 = .ok (.iload 5, 2) := by decide +kernel
theorem dL_law__431 : decode cL_law_ 431 = .ok (.if_icmp .eq 5, 3) := by decide +kernel
theorem dL_law__434 : decode cL_law_ 434 = .ok (.iconst 0, 1) := by decide +kernel
theorem dL_law__435 : decode cL_law_ 435 = .ok (.ireturn, 1) := by decide +kernel
theorem dL_law__436 : decode cL_law_ 436 = .ok (.iload 5, 2) := by decide +kernel
theorem dL_law__438 : decode cL_law_ 438 = .ok (.ifCond .ne 15, 3) := by decide +kernel
theorem dL_law__441 : decode cL_law_ 441 = .ok (.aload_n 3, 1) := by decide +kernel
theorem dL_law__442 : decode cL_law_ 442 = .ok (.iconst 0, 1) := by decide +kernel
theorem dL_law__443 : decode cL_law_ 443 = .ok (.laload, 1) := by decide +kernel
theorem dL_law__444 : decode cL_law_ 444 = .ok (.iload 6, 2) := by decide +kernel
theorem dL_law__446 : decode cL_law_ 446 = .ok (.i2l, 1) := by decide +kernel
theorem dL_law__447 : decode cL_law_ 447 = .ok (.lcmp, 1) := by decide +kernel
theorem dL_law__448 : decode cL_law_ 448 = .ok (.ifCond .eq 5, 3) := by decide +kernel
theorem dL_law__451 : decode cL_law_ 451 = .ok (.iconst 0, 1) := by decide +kernel
theorem dL_law__452 : decode cL_law_ 452 = .ok (.ireturn, 1) := by decide +kernel
theorem dL_law__453 : decode cL_law_ 453 = .ok (.goto 2470, 3) := by decide +kernel
theorem dL_law__456 : decode cL_law_ 456 = .ok (.aload_n 1, 1) := by decide +kernel
theorem dL_law__457 : decode cL_law_ 457 = .ok (.aload_n 0, 1) := by decide +kernel
theorem dL_law__458 : decode cL_law_ 458 = .ok (.iload 4, 2) := by decide +kernel
theorem dL_law__460 : decode cL_law_ 460 = .ok (.iconst 1, 1) := by decide +kernel
theorem dL_law__461 : decode cL_law_ 461 = .ok (.iadd, 1) := by decide +kernel
theorem dL_law__462 : decode cL_law_ 462 = .ok (.iaload, 1) := by decide +kernel
theorem dL_law__463 : decode cL_law_ 463 = .ok (.aload_n 0, 1) := by decide +kernel
theorem dL_law__464 : decode cL_law_ 464 = .ok (.iload 4, 2) := by decide +kernel
theorem dL_law__466 : decode cL_law_ 466 = .ok (.iconst 2, 1) := by decide +kernel
theorem dL_law__467 : decode cL_law_ 467 = .ok (.iadd, 1) := by decide +kernel
theorem dL_law__468 : decode cL_law_ 468 = .ok (.iaload, 1) := by decide +kernel
theorem dL_law__469 : decode cL_law_ 469 = .ok (.aload_n 3, 1) := by decide +kernel
theorem dL_law__470 : decode cL_law_ 470 = .ok (.invokestatic 152, 3) := by decide +kernel
theorem dL_law__473 : decode cL_law_ 473 = .ok (.istore 5, 2) := by decide +kernel
theorem dL_law__475 : decode cL_law_ 475 = .ok (.aload_n 2, 1) := by decide +kernel
theorem dL_law__476 : decode cL_law_ 476 = .ok (.aload_n 0, 1) := by decide +kernel
theorem dL_law__477 : decode cL_law_ 477 = .ok (.iload 4, 2) := by decide +kernel
theorem dL_law__479 : decode cL_law_ 479 = .ok (.iconst 1, 1) := by decide +kernel
theorem dL_law__480 : decode cL_law_ 480 = .ok (.iadd, 1) := by decide +kernel
theorem dL_law__481 : decode cL_law_ 481 = .ok (.iaload, 1) := by decide +kernel
theorem dL_law__482 : decode cL_law_ 482 = .ok (.aload_n 0, 1) := by decide +kernel
theorem dL_law__483 : decode cL_law_ 483 = .ok (.iload 4, 2) := by decide +kernel
theorem dL_law__485 : decode cL_law_ 485 = .ok (.iconst 2, 1) := by decide +kernel
theorem dL_law__486 : decode cL_law_ 486 = .ok (.iadd, 1) := by decide +kernel
theorem dL_law__487 : decode cL_law_ 487 = .ok (.iaload, 1) := by decide +kernel
theorem dL_law__488 : decode cL_law_ 488 = .ok (.invokevirtual 154, 3) := by decide +kernel
theorem dL_law__491 : decode cL_law_ 491 = .ok (.istore 6, 2) := by decide +kernel
theorem dL_law__493 : decode cL_law_ 493 = .ok (.aload_n 2, 1) := by decide +kernel
theorem dL_law__494 : decode cL_law_ 494 = .ok (.invokevirtual 140, 3) := by decide +kernel
theorem dL_law__497 : decode cL_law_ 497 = .ok (.iload 5, 2) := by decide +kernel
theorem dL_law__499 : decode cL_law_ 499 = .ok (.if_icmp .eq 5, 3) := by decide +kernel
theorem dL_law__502 : decode cL_law_ 502 = .ok (.iconst 0, 1) := by decide +kernel
theorem dL_law__503 : decode cL_law_ 503 = .ok (.ireturn, 1) := by decide +kernel
theorem dL_law__504 : decode cL_law_ 504 = .ok (.iload 5, 2) := by decide +kernel
theorem dL_law__506 : decode cL_law_ 506 = .ok (.ifCond .ne 15, 3) := by decide +kernel
theorem dL_law__509 : decode cL_law_ 509 = .ok (.aload_n 3, 1) := by decide +kernel
theorem dL_law__510 : decode cL_law_ 510 = .ok (.iconst 0, 1) := by decide +kernel
theorem dL_law__511 : decode cL_law_ 511 = .ok (.laload, 1) := by decide +kernel
theorem dL_law__512 : decode cL_law_ 512 = .ok (.iload 6, 2) := by decide +kernel
theorem dL_law__514 : decode cL_law_ 514 = .ok (.i2l, 1) := by decide +kernel
theorem dL_law__515 : decode cL_law_ 515 = .ok (.lcmp, 1) := by decide +kernel
theorem dL_law__516 : decode cL_law_ 516 = .ok (.ifCond .eq 5, 3) := by decide +kernel
theorem dL_law__519 : decode cL_law_ 519 = .ok (.iconst 0, 1) := by decide +kernel
theorem dL_law__520 : decode cL_law_ 520 = .ok (.ireturn, 1) := by decide +kernel
theorem dL_law__521 : decode cL_law_ 521 = .ok (.goto 2402, 3) := by decide +kernel
theorem dL_law__524 : decode cL_law_ 524 = .ok (.aload_n 1, 1) := by decide +kernel
theorem dL_law__525 : decode cL_law_ 525 = .ok (.aload_n 0, 1) := by decide +kernel
theorem dL_law__526 : decode cL_law_ 526 = .ok (.iload 4, 2) := by decide +kernel
theorem dL_law__528 : decode cL_law_ 528 = .ok (.iconst 1, 1) := by decide +kernel
theorem dL_law__529 : decode cL_law_ 529 = .ok (.iadd, 1) := by decide +kernel
theorem dL_law__530 : decode cL_law_ 530 = .ok (.iaload, 1) := by decide +kernel
theorem dL_law__531 : decode cL_law_ 531 = .ok (.aload_n 0, 1) := by decide +kernel
theorem dL_law__532 : decode cL_law_ 532 = .ok (.iload 4, 2) := by decide +kernel
theorem dL_law__534 : decode cL_law_ 534 = .ok (.iconst 2, 1) := by decide +kernel
theorem dL_law__535 : decode cL_law_ 535 = .ok (.iadd, 1) := by decide +kernel
theorem dL_law__536 : decode cL_law_ 536 = .ok (.iaload, 1) := by decide +kernel
theorem dL_law__537 : decode cL_law_ 537 = .ok (.aload_n 0, 1) := by decide +kernel
theorem dL_law__538 : decode cL_law_ 538 = .ok (.iload 4, 2) := by decide +kernel
theorem dL_law__540 : decode cL_law_ 540 = .ok (.iconst 3, 1) := by decide +kernel
theorem dL_law__541 : decode cL_law_ 541 = .ok (.iadd, 1) := by decide +kernel
theorem dL_law__542 : decode cL_law_ 542 = .ok (.iaload, 1) := by decide +kernel
theorem dL_law__543 : decode cL_law_ 543 = .ok (.aload_n 0, 1) := by decide +kernel
theorem dL_law__544 : decode cL_law_ 544 = .ok (.iload 4, 2) := by decide +kernel
theorem dL_law__546 : decode cL_law_ 546 = .ok (.iconst 4, 1) := by decide +kernel
theorem dL_law__547 : decode cL_law_ 547 = .ok (.iadd, 1) := by decide +kernel
theorem dL_law__548 : decode cL_law_ 548 = .ok (.iaload, 1) := by decide +kernel
theorem dL_law__549 : decode cL_law_ 549 = .ok (.aload_n 0, 1) := by decide +kernel
theorem dL_law__550 : decode cL_law_ 550 = .ok (.iload 4, 2) := by decide +kernel
theorem dL_law__552 : decode cL_law_ 552 = .ok (.iconst 5, 1) := by decide +kernel
theorem dL_law__553 : decode cL_law_ 553 = .ok (.iadd, 1) := by decide +kernel
theorem dL_law__554 : decode cL_law_ 554 = .ok (.iaload, 1) := by decide +kernel
theorem dL_law__555 : decode cL_law_ 555 = .ok (.invokevirtual 155, 3) := by decide +kernel
theorem dL_law__558 : decode cL_law_ 558 = .ok (.aload_n 2, 1) := by decide +kernel
theorem dL_law__559 : decode cL_law_ 559 = .ok (.aload_n 0, 1) := by decide +kernel
theorem dL_law__560 : decode cL_law_ 560 = .ok (.iload 4, 2) := by decide +kernel
theorem dL_law__562 : decode cL_law_ 562 = .ok (.iconst 1, 1) := by decide +kernel
theorem dL_law__563 : decode cL_law_ 563 = .ok (.iadd, 1) := by decide +kernel
theorem dL_law__564 : decode cL_law_ 564 = .ok (.iaload, 1) := by decide +kernel
theorem dL_law__565 : decode cL_law_ 565 = .ok (.aload_n 0, 1) := by decide +kernel
theorem dL_law__566 : decode cL_law_ 566 = .ok (.iload 4, 2) := by decide +kernel
theorem dL_law__568 : decode cL_law_ 568 = .ok (.iconst 2, 1) := by decide +kernel
theorem dL_law__569 : decode cL_law_ 569 = .ok (.iadd, 1) := by decide +kernel
theorem dL_law__570 : decode cL_law_ 570 = .ok (.iaload, 1) := by decide +kernel
theorem dL_law__571 : decode cL_law_ 571 = .ok (.aload_n 0, 1) := by decide +kernel
theorem dL_law__572 : decode cL_law_ 572 = .ok (.iload 4, 2) := by decide +kernel
theorem dL_law__574 : decode cL_law_ 574 = .ok (.iconst 3, 1) := by decide +kernel
theorem dL_law__575 : decode cL_law_ 575 = .ok (.iadd, 1) := by decide +kernel
theorem dL_law__576 : decode cL_law_ 576 = .ok (.iaload, 1) := by decide +kernel
theorem dL_law__577 : decode cL_law_ 577 = .ok (.aload_n 0, 1) := by decide +kernel
theorem dL_law__578 : decode cL_law_ 578 = .ok (.iload 4, 2) := by decide +kernel
theorem dL_law__580 : decode cL_law_ 580 = .ok (.iconst 4, 1) := by decide +kernel
theorem dL_law__581 : decode cL_law_ 581 = .ok (.iadd, 1) := by decide +kernel
theorem dL_law__582 : decode cL_law_ 582 = .ok (.iaload, 1) := by decide +kernel
theorem dL_law__583 : decode cL_law_ 583 = .ok (.aload_n 0, 1) := by decide +kernel
theorem dL_law__584 : decode cL_law_ 584 = .ok (.iload 4, 2) := by decide +kernel
theorem dL_law__586 : decode cL_law_ 586 = .ok (.iconst 5, 1) := by decide +kernel
theorem dL_law__587 : decode cL_law_ 587 = .ok (.iadd, 1) := by decide +kernel
theorem dL_law__588 : decode cL_law_ 588 = .ok (.iaload, 1) := by decide +kernel
theorem dL_law__589 : decode cL_law_ 589 = .ok (.invokevirtual 158, 3) := by decide +kernel
theorem dL_law__592 : decode cL_law_ 592 = .ok (.if_icmp .eq 2331, 3) := by decide +kernel
theorem dL_law__595 : decode cL_law_ 595 = .ok (.iconst 0, 1) := by decide +kernel
theorem dL_law__596 : decode cL_law_ 596 = .ok (.ireturn, 1) := by decide +kernel
theorem dL_law__597 : decode cL_law_ 597 = .ok (.aload_n 1, 1) := by decide +kernel
theorem dL_law__598 : decode cL_law_ 598 = .ok (.aload_n 0, 1) := by decide +kernel
theorem dL_law__599 : decode cL_law_ 599 = .ok (.iload 4, 2) := by decide +kernel
theorem dL_law__601 : decode cL_law_ 601 = .ok (.iconst 1, 1) := by decide +kernel
theorem dL_law__602 : decode cL_law_ 602 = .ok (.iadd, 1) := by decide +kernel
theorem dL_law__603 : decode cL_law_ 603 = .ok (.iaload, 1) := by decide +kernel
theorem dL_law__604 : decode cL_law_ 604 = .ok (.aload_n 0, 1) := by decide +kernel
theorem dL_law__605 : decode cL_law_ 605 = .ok (.iload 4, 2) := by decide +kernel
theorem dL_law__607 : decode cL_law_ 607 = .ok (.iconst 2, 1) := by decide +kernel
theorem dL_law__608 : decode cL_law_ 608 = .ok (.iadd, 1) := by decide +kernel
theorem dL_law__609 : decode cL_law_ 609 = .ok (.iaload, 1) := by decide +kernel
theorem dL_law__610 : decode cL_law_ 610 = .ok (.aload_n 3, 1) := by decide +kernel
theorem dL_law__611 : decode cL_law_ 611 = .ok (.invokestatic 159, 3) := by decide +kernel
theorem dL_law__614 : decode cL_law_ 614 = .ok (.istore 5, 2) := by decide +kernel
theorem dL_law__616 : decode cL_law_ 616 = .ok (.aload_n 2, 1) := by decide +kernel
theorem dL_law__617 : decode cL_law_ 617 = .ok (.aload_n 0, 1) := by decide +kernel
theorem dL_law__618 : decode cL_law_ 618 = .ok (.iload 4, 2) := by decide +kernel
theorem dL_law__620 : decode cL_law_ 620 = .ok (.iconst 1, 1) := by decide +kernel
theorem dL_law__621 : decode cL_law_ 621 = .ok (.iadd, 1) := by decide +kernel
theorem dL_law__622 : decode cL_law_ 622 = .ok (.iaload, 1) := by decide +kernel
theorem dL_law__623 : decode cL_law_ 623 = .ok (.aload_n 0, 1) := by decide +kernel
theorem dL_law__624 : decode cL_law_ 624 = .ok (.iload 4, 2) := by decide +kernel
theorem dL_law__626 : decode cL_law_ 626 = .ok (.iconst 2, 1) := by decide +kernel
theorem dL_law__627 : decode cL_law_ 627 = .ok (.iadd, 1) := by decide +kernel
theorem dL_law__628 : decode cL_law_ 628 = .ok (.iaload, 1) := by decide +kernel
theorem dL_law__629 : decode cL_law_ 629 = .ok (.invokevirtual 161, 3) := by decide +kernel
theorem dL_law__632 : decode cL_law_ 632 = .ok (.istore 6, 2) := by decide +kernel
theorem dL_law__634 : decode cL_law_ 634 = .ok (.aload_n 2, 1) := by decide +kernel
theorem dL_law__635 : decode cL_law_ 635 = .ok (.invokevirtual 140, 3) := by decide +kernel
theorem dL_law__638 : decode cL_law_ 638 = .ok (.iload 5, 2) := by decide +kernel
theorem dL_law__640 : decode cL_law_ 640 = .ok (.if_icmp .eq 5, 3) := by decide +kernel
theorem dL_law__643 : decode cL_law_ 643 = .ok (.iconst 0, 1) := by decide +kernel
theorem dL_law__644 : decode cL_law_ 644 = .ok (.ireturn, 1) := by decide +kernel
theorem dL_law__645 : decode cL_law_ 645 = .ok (.iload 5, 2) := by decide +kernel
theorem dL_law__647 : decode cL_law_ 647 = .ok (.ifCond .ne 15, 3) := by decide +kernel
theorem dL_law__650 : decode cL_law_ 650 = .ok (.aload_n 3, 1) := by decide +kernel
theorem dL_law__651 : decode cL_law_ 651 = .ok (.iconst 0, 1) := by decide +kernel
theorem dL_law__652 : decode cL_law_ 652 = .ok (.laload, 1) := by decide +kernel
theorem dL_law__653 : decode cL_law_ 653 = .ok (.iload 6, 2) := by decide +kernel
theorem dL_law__655 : decode cL_law_ 655 = .ok (.i2l, 1) := by decide +kernel
theorem dL_law__656 : decode cL_law_ 656 = .ok (.lcmp, 1) := by decide +kernel
theorem dL_law__657 : decode cL_law_ 657 = .ok (.ifCond .eq 5, 3) := by decide +kernel
theorem dL_law__660 : decode cL_law_ 660 = .ok (.iconst 0, 1) := by decide +kernel
theorem dL_law__661 : decode cL_law_ 661 = .ok (.ireturn, 1) := by decide +kernel
theorem dL_law__662 : decode cL_law_ 662 = .ok (.goto 2261, 3) := by decide +kernel
theorem dL_law__665 : decode cL_law_ 665 = .ok (.aload_n 1, 1) := by decide +kernel
theorem dL_law__666 : decode cL_law_ 666 = .ok (.aload_n 0, 1) := by decide +kernel
theorem dL_law__667 : decode cL_law_ 667 = .ok (.iload 4, 2) := by decide +kernel
theorem dL_law__669 : decode cL_law_ 669 = .ok (.iconst 1, 1) := by decide +kernel
theorem dL_law__670 : decode cL_law_ 670 = .ok (.iadd, 1) := by decide +kernel
theorem dL_law__671 : decode cL_law_ 671 = .ok (.iaload, 1) := by decide +kernel
theorem dL_law__672 : decode cL_law_ 672 = .ok (.aload_n 3, 1) := by decide +kernel
theorem dL_law__673 : decode cL_law_ 673 = .ok (.invokestatic 162, 3) := by decide +kernel
theorem dL_law__676 : decode cL_law_ 676 = .ok (.istore 5, 2) := by decide +kernel
theorem dL_law__678 : decode cL_law_ 678 = .ok (.aload_n 2, 1) := by decide +kernel
theorem dL_law__679 : decode cL_law_ 679 = .ok (.aload_n 0, 1) := by decide +kernel
theorem dL_law__680 : decode cL_law_ 680 = .ok (.iload 4, 2) := by decide +kernel
theorem dL_law__682 : decode cL_law_ 682 = .ok (.iconst 1, 1) := by decide +kernel
theorem dL_law__683 : decode cL_law_ 683 = .ok (.iadd, 1) := by decide +kernel
theorem dL_law__684 : decode cL_law_ 684 = .ok (.iaload, 1) := by decide +kernel
theorem dL_law__685 : decode cL_law_ 685 = .ok (.invokevirtual 165, 3) := by decide +kernel
theorem dL_law__688 : decode cL_law_ 688 = .ok (.istore 6, 2) := by decide +kernel
theorem dL_law__690 : decode cL_law_ 690 = .ok (.aload_n 2, 1) := by decide +kernel
theorem dL_law__691 : decode cL_law_ 691 = .ok (.invokevirtual 140, 3) := by decide +kernel
theorem dL_law__694 : decode cL_law_ 694 = .ok (.iload 5, 2) := by decide +kernel
theorem dL_law__696 : decode cL_law_ 696 = .ok (.if_icmp .eq 5, 3) := by decide +kernel
theorem dL_law__699 : decode cL_law_ 699 = .ok (.iconst 0, 1) := by decide +kernel
theorem dL_law__700 : decode cL_law_ 700 = .ok (.ireturn, 1) := by decide +kernel
theorem dL_law__701 : decode cL_law_ 701 = .ok (.iload 5, 2) := by decide +kernel
theorem dL_law__703 : decode cL_law_ 703 = .ok (.ifCond .ne 15, 3) := by decide +kernel
theorem dL_law__706 : decode cL_law_ 706 = .ok (.aload_n 3, 1) := by decide +kernel
theorem dL_law__707 : decode cL_law_ 707 = .ok (.iconst 0, 1) := by decide +kernel
theorem dL_law__708 : decode cL_law_ 708 = .ok (.laload, 1) := by decide +kernel
theorem dL_law__709 : decode cL_law_ 709 = .ok (.iload 6, 2) := by decide +kernel
theorem dL_law__711 : decode cL_law_ 711 = .ok (.i2l, 1) := by decide +kernel
theorem dL_law__712 : decode cL_law_ 712 = .ok (.lcmp, 1) := by decide +kernel
theorem dL_law__713 : decode cL_law_ 713 = .ok (.ifCond .eq 5, 3) := by decide +kernel
theorem dL_law__716 : decode cL_law_ 716 = .ok (.iconst 0, 1) := by decide +kernel
theorem dL_law__717 : decode cL_law_ 717 = .ok (.ireturn, 1) := by decide +kernel
theorem dL_law__718 : decode cL_law_ 718 = .ok (.goto 2205, 3) := by decide +kernel
theorem dL_law__721 : decode cL_law_ 721 = .ok (.aload_n 1, 1) := by decide +kernel
theorem dL_law__722 : decode cL_law_ 722 = .ok (.aload_n 0, 1) := by decide +kernel
theorem dL_law__723 : decode cL_law_ 723 = .ok (.iload 4, 2) := by decide +kernel
theorem dL_law__725 : decode cL_law_ 725 = .ok (.iconst 1, 1) := by decide +kernel
theorem dL_law__726 : decode cL_law_ 726 = .ok (.iadd, 1) := by decide +kernel
theorem dL_law__727 : decode cL_law_ 727 = .ok (.iaload, 1) := by decide +kernel
theorem dL_law__728 : decode cL_law_ 728 = .ok (.invokevirtual 166, 3) := by decide +kernel
theorem dL_law__731 : decode cL_law_ 731 = .ok (.aload_n 2, 1) := by decide +kernel
theorem dL_law__732 : decode cL_law_ 732 = .ok (.aload_n 0, 1) := by decide +kernel
theorem dL_law__733 : decode cL_law_ 733 = .ok (.iload 4, 2) := by decide +kernel
theorem dL_law__735 : decode cL_law_ 735 = .ok (.iconst 1, 1) := by decide +kernel
theorem dL_law__736 : decode cL_law_ 736 = .ok (.iadd, 1) := by decide +kernel
theorem dL_law__737 : decode cL_law_ 737 = .ok (.iaload, 1) := by decide +kernel
theorem dL_law__738 : decode cL_law_ 738 = .ok (.invokevirtual 169, 3) := by decide +kernel
theorem dL_law__741 : decode cL_law_ 741 = .ok (.if_icmp .eq 2182, 3) := by decide +kernel
theorem dL_law__744 : decode cL_law_ 744 = .ok (.iconst 0, 1) := by decide +kernel
theorem dL_law__745 : decode cL_law_ 745 = .ok (.ireturn, 1) := by decide +kernel
theorem dL_law__746 : decode cL_law_ 746 = .ok (.aload_n 1, 1) := by decide +kernel
theorem dL_law__747 : decode cL_law_ 747 = .ok (.aload_n 0, 1) := by decide +kernel
theorem dL_law__748 : decode cL_law_ 748 = .ok (.iload 4, 2) := by decide +kernel
theorem dL_law__750 : decode cL_law_ 750 = .ok (.iconst 1, 1) := by decide +kernel
theorem dL_law__751 : decode cL_law_ 751 = .ok (.iadd, 1) := by decide +kernel
theorem dL_law__752 : decode cL_law_ 752 = .ok (.iaload, 1) := by decide +kernel
theorem dL_law__753 : decode cL_law_ 753 = .ok (.aload_n 3, 1) := by decide +kernel
theorem dL_law__754 : decode cL_law_ 754 = .ok (.invokestatic 170, 3) := by decide +kernel
theorem dL_law__757 : decode cL_law_ 757 = .ok (.istore 5, 2) := by decide +kernel
theorem dL_law__759 : decode cL_law_ 759 = .ok (.aload_n 2, 1) := by decide +kernel
theorem dL_law__760 : decode cL_law_ 760 = .ok (.aload_n 0, 1) := by decide +kernel
theorem dL_law__761 : decode cL_law_ 761 = .ok (.iload 4, 2) := by decide +kernel
theorem dL_law__763 : decode cL_law_ 763 = .ok (.iconst 1, 1) := by decide +kernel
theorem dL_law__764 : decode cL_law_ 764 = .ok (.iadd, 1) := by decide +kernel
theorem dL_law__765 : decode cL_law_ 765 = .ok (.iaload, 1) := by decide +kernel
theorem dL_law__766 : decode cL_law_ 766 = .ok (.invokevirtual 172, 3) := by decide +kernel
theorem dL_law__769 : decode cL_law_ 769 = .ok (.istore 6, 2) := by decide +kernel
theorem dL_law__771 : decode cL_law_ 771 = .ok (.aload_n 2, 1) := by decide +kernel
theorem dL_law__772 : decode cL_law_ 772 = .ok (.invokevirtual 140, 3) := by decide +kernel
theorem dL_law__775 : decode cL_law_ 775 = .ok (.iload 5, 2) := by decide +kernel
theorem dL_law__777 : decode cL_law_ 777 = .ok (.if_icmp .eq 5, 3) := by decide +kernel
theorem dL_law__780 : decode cL_law_ 780 = .ok (.iconst 0, 1) := by decide +kernel
theorem dL_law__781 : decode cL_law_ 781 = .ok (.ireturn, 1) := by decide +kernel
theorem dL_law__782 : decode cL_law_ 782 = .ok (.iload 5, 2) := by decide +kernel
theorem dL_law__784 : decode cL_law_ 784 = .ok (.ifCond .ne 15, 3) := by decide +kernel
theorem dL_law__787 : decode cL_law_ 787 = .ok (.aload_n 3, 1) := by decide +kernel
theorem dL_law__788 : decode cL_law_ 788 = .ok (.iconst 0, 1) := by decide +kernel
theorem dL_law__789 : decode cL_law_ 789 = .ok (.laload, 1) := by decide +kernel
theorem dL_law__790 : decode cL_law_ 790 = .ok (.iload 6, 2) := by decide +kernel
theorem dL_law__792 : decode cL_law_ 792 = .ok (.i2l, 1) := by decide +kernel
theorem dL_law__793 : decode cL_law_ 793 = .ok (.lcmp, 1) := by decide +kernel
theorem dL_law__794 : decode cL_law_ 794 = .ok (.ifCond .eq 5, 3) := by decide +kernel
theorem dL_law__797 : decode cL_law_ 797 = .ok (.iconst 0, 1) := by decide +kernel
theorem dL_law__798 : decode cL_law_ 798 = .ok (.ireturn, 1) := by decide +kernel
theorem dL_law__799 : decode cL_law_ 799 = .ok (.goto 2124, 3) := by decide +kernel
theorem dL_law__802 : decode cL_law_ 802 = .ok (.aload_n 1, 1) := by decide +kernel
theorem dL_law__803 : decode cL_law_ 803 = .ok (.aload_n 0, 1) := by decide +kernel
theorem dL_law__804 : decode cL_law_ 804 = .ok (.iload 4, 2) := by decide +kernel
theorem dL_law__806 : decode cL_law_ 806 = .ok (.iconst 1, 1) := by decide +kernel
theorem dL_law__807 : decode cL_law_ 807 = .ok (.iadd, 1) := by decide +kernel
theorem dL_law__808 : decode cL_law_ 808 = .ok (.iaload, 1) := by decide +kernel
theorem dL_law__809 : decode cL_law_ 809 = .ok (.aload_n 3, 1) := by decide +kernel
theorem dL_law__810 : decode cL_law_ 810 = .ok (.invokestatic 173, 3) := by decide +kernel
theorem dL_law__813 : decode cL_law_ 813 = .ok (.istore 5, 2) := by decide +kernel
theorem dL_law__815 : decode cL_law_ 815 = .ok (.aload_n 2, 1) := by decide +kernel
theorem dL_law__816 : decode cL_law_ 816 = .ok (.aload_n 0, 1) := by decide +kernel
theorem dL_law__817 : decode cL_law_ 817 = .ok (.iload 4, 2) := by decide +kernel
theorem dL_law__819 : decode cL_law_ 819 = .ok (.iconst 1, 1) := by decide +kernel
theorem dL_law__820 : decode cL_law_ 820 = .ok (.iadd, 1) := by decide +kernel
theorem dL_law__821 : decode cL_law_ 821 = .ok (.iaload, 1) := by decide +kernel
theorem dL_law__822 : decode cL_law_ 822 = .ok (.invokevirtual 175, 3) := by decide +kernel
theorem dL_law__825 : decode cL_law_ 825 = .ok (.istore 6, 2) := by decide +kernel
theorem dL_law__827 : decode cL_law_ 827 = .ok (.aload_n 2, 1) := by decide +kernel
theorem dL_law__828 : decode cL_law_ 828 = .ok (.invokevirtual 140, 3) := by decide +kernel
theorem dL_law__831 : decode cL_law_ 831 = .ok (.iload 5, 2) := by decide +kernel
theorem dL_law__833 : decode cL_law_ 833 = .ok (.if_icmp .eq 5, 3) := by decide +kernel
theorem dL_law__836 : decode cL_law_ 836 = .ok (.iconst 0, 1) := by decide +kernel
theorem dL_law__837 : decode cL_law_ 837 = .ok (.ireturn, 1) := by decide +kernel
theorem dL_law__838 : decode cL_law_ 838 = .ok (.iload 5, 2) := by decide +kernel
theorem dL_law__840 : decode cL_law_ 840 = .ok (.ifCond .ne 15, 3) := by decide +kernel
theorem dL_law__843 : decode cL_law_ 843 = .ok (.aload_n 3, 1) := by decide +kernel
theorem dL_law__844 : decode cL_law_ 844 = .ok (.iconst 0, 1) := by decide +kernel
theorem dL_law__845 : decode cL_law_ 845 = .ok (.laload, 1) := by decide +kernel
theorem dL_law__846 : decode cL_law_ 846 = .ok (.iload 6, 2) := by decide +kernel
theorem dL_law__848 : decode cL_law_ 848 = .ok (.i2l, 1) := by decide +kernel
theorem dL_law__849 : decode cL_law_ 849 = .ok (.lcmp, 1) := by decide +kernel
theorem dL_law__850 : decode cL_law_ 850 = .ok (.ifCond .eq 5, 3) := by decide +kernel
theorem dL_law__853 : decode cL_law_ 853 = .ok (.iconst 0, 1) := by decide +kernel
theorem dL_law__854 : decode cL_law_ 854 = .ok (.ireturn, 1) := by decide +kernel
theorem dL_law__855 : decode cL_law_ 855 = .ok (.goto 2068, 3) := by decide +kernel
theorem dL_law__858 : decode cL_law_ 858 = .ok (.aload_n 1, 1) := by decide +kernel
theorem dL_law__859 : decode cL_law_ 859 = .ok (.aload_n 0, 1) := by decide +kernel
theorem dL_law__860 : decode cL_law_ 860 = .ok (.iload 4, 2) := by decide +kernel
theorem dL_law__862 : decode cL_law_ 862 = .ok (.iconst 1, 1) := by decide +kernel
theorem dL_law__863 : decode cL_law_ 863 = .ok (.iadd, 1) := by decide +kernel
theorem dL_law__864 : decode cL_law_ 864 = .ok (.iaload, 1) := by decide +kernel
theorem dL_law__865 : decode cL_law_ 865 = .ok (.aload_n 0, 1) := by decide +kernel
theorem dL_law__866 : decode cL_law_ 866 = .ok (.iload 4, 2) := by decide +kernel
theorem dL_law__868 : decode cL_law_ 868 = .ok (.iconst 2, 1) := by decide +kernel
theorem dL_law__869 : decode cL_law_ 869 = .ok (.iadd, 1) := by decide +kernel
theorem dL_law__870 : decode cL_law_ 870 = .ok (.iaload, 1) := by decide +kernel
theorem dL_law__871 : decode cL_law_ 871 = .ok (.aload_n 3, 1) := by decide +kernel
theorem dL_law__872 : decode cL_law_ 872 = .ok (.invokestatic 176, 3) := by decide +kernel
theorem dL_law__875 : decode cL_law_ 875 = .ok (.istore 5, 2) := by decide +kernel
theorem dL_law__877 : decode cL_law_ 877 = .ok (.aload_n 2, 1) := by decide +kernel
theorem dL_law__878 : decode cL_law_ 878 = .ok (.aload_n 0, 1) := by decide +kernel
theorem dL_law__879 : decode cL_law_ 879 = .ok (.iload 4, 2) := by decide +kernel
theorem dL_law__881 : decode cL_law_ 881 = .ok (.iconst 1, 1) := by decide +kernel
theorem dL_law__882 : decode cL_law_ 882 = .ok (.iadd, 1) := by decide +kernel
theorem dL_law__883 : decode cL_law_ 883 = .ok (.iaload, 1) := by decide +kernel
theorem dL_law__884 : decode cL_law_ 884 = .ok (.aload_n 0, 1) := by decide +kernel
theorem dL_law__885 : decode cL_law_ 885 = .ok (.iload 4, 2) := by decide +kernel
theorem dL_law__887 : decode cL_law_ 887 = .ok (.iconst 2, 1) := by decide +kernel
theorem dL_law__888 : decode cL_law_ 888 = .ok (.iadd, 1) := by decide +kernel
theorem dL_law__889 : decode cL_law_ 889 = .ok (.iaload, 1) := by decide +kernel
theorem dL_law__890 : decode cL_law_ 890 = .ok (.invokevirtual 178, 3) := by decide +kernel
theorem dL_law__893 : decode cL_law_ 893 = .ok (.istore 6, 2) := by decide +kernel
theorem dL_law__895 : decode cL_law_ 895 = .ok (.aload_n 2, 1) := by decide +kernel
theorem dL_law__896 : decode cL_law_ 896 = .ok (.invokevirtual 140, 3) := by decide +kernel
theorem dL_law__899 : decode cL_law_ 899 = .ok (.iload 5, 2) := by decide +kernel
theorem dL_law__901 : decode cL_law_ 901 = .ok (.if_icmp .eq 5, 3) := by decide +kernel
theorem dL_law__904 : decode cL_law_ 904 = .ok (.iconst 0, 1) := by decide +kernel
theorem dL_law__905 : decode cL_law_ 905 = .ok (.ireturn, 1) := by decide +kernel
theorem dL_law__906 : decode cL_law_ 906 = .ok (.iload 5, 2) := by decide +kernel
theorem dL_law__908 : decode cL_law_ 908 = .ok (.ifCond .ne 15, 3) := by decide +kernel
theorem dL_law__911 : decode cL_law_ 911 = .ok (.aload_n 3, 1) := by decide +kernel
theorem dL_law__912 : decode cL_law_ 912 = .ok (.iconst 0, 1) := by decide +kernel
theorem dL_law__913 : decode cL_law_ 913 = .ok (.laload, 1) := by decide +kernel
theorem dL_law__914 : decode cL_law_ 914 = .ok (.iload 6, 2) := by decide +kernel
theorem dL_law__916 : decode cL_law_ 916 = .ok (.i2l, 1) := by decide +kernel
theorem dL_law__917 : decode cL_law_ 917 = .ok (.lcmp, 1) := by decide +kernel
theorem dL_law__918 : decode cL_law_ 918 = .ok (.ifCond .eq 5, 3) := by decide +kernel
theorem dL_law__921 : decode cL_law_ 921 = .ok (.iconst 0, 1) := by decide +kernel
theorem dL_law__922 : decode cL_law_ 922 = .ok (.ireturn, 1) := by decide +kernel
theorem dL_law__923 : decode cL_law_ 923 = .ok (.goto 2000, 3) := by decide +kernel
theorem dL_law__926 : decode cL_law_ 926 = .ok (.aload_n 1, 1) := by decide +kernel
theorem dL_law__927 : decode cL_law_ 927 = .ok (.aload_n 0, 1) := by decide +kernel
theorem dL_law__928 : decode cL_law_ 928 = .ok (.iload 4, 2) := by decide +kernel
theorem dL_law__930 : decode cL_law_ 930 = .ok (.iconst 1, 1) := by decide +kernel
theorem dL_law__931 : decode cL_law_ 931 = .ok (.iadd, 1) := by decide +kernel
theorem dL_law__932 : decode cL_law_ 932 = .ok (.iaload, 1) := by decide +kernel
theorem dL_law__933 : decode cL_law_ 933 = .ok (.aload_n 3, 1) := by decide +kernel
theorem dL_law__934 : decode cL_law_ 934 = .ok (.invokestatic 179, 3) := by decide +kernel
theorem dL_law__937 : decode cL_law_ 937 = .ok (.istore 5, 2) := by decide +kernel
theorem dL_law__939 : decode cL_law_ 939 = .ok (.aload_n 2, 1) := by decide +kernel
theorem dL_law__940 : decode cL_law_ 940 = .ok (.aload_n 0, 1) := by decide +kernel
theorem dL_law__941 : decode cL_law_ 941 = .ok (.iload 4, 2) := by decide +kernel
theorem dL_law__943 : decode cL_law_ 943 = .ok (.iconst 1, 1) := by decide +kernel
theorem dL_law__944 : decode cL_law_ 944 = .ok (.iadd, 1) := by decide +kernel
theorem dL_law__945 : decode cL_law_ 945 = .ok (.iaload, 1) := by decide +kernel
theorem dL_law__946 : decode cL_law_ 946 = .ok (.invokevirtual 181, 3) := by decide +kernel
theorem dL_law__949 : decode cL_law_ 949 = .ok (.istore 6, 2) := by decide +kernel
theorem dL_law__951 : decode cL_law_ 951 = .ok (.aload_n 2, 1) := by decide +kernel
theorem dL_law__952 : decode cL_law_ 952 = .ok (.invokevirtual 140, 3) := by decide +kernel
theorem dL_law__955 : decode cL_law_ 955 = .ok (.iload 5, 2) := by decide +kernel
theorem dL_law__957 : decode cL_law_ 957 = .ok (.if_icmp .eq 5, 3) := by decide +kernel
theorem dL_law__960 : decode cL_law_ 960 = .ok (.iconst 0, 1) := by decide +kernel
theorem dL_law__961 : decode cL_law_ 961 = .ok (.ireturn, 1) := by decide +kernel
theorem dL_law__962 : decode cL_law_ 962 = .ok (.iload 5, 2) := by decide +kernel
theorem dL_law__964 : decode cL_law_ 964 = .ok (.ifCond .ne 15, 3) := by decide +kernel
theorem dL_law__967 : decode cL_law_ 967 = .ok (.aload_n 3, 1) := by decide +kernel
theorem dL_law__968 : decode cL_law_ 968 = .ok (.iconst 0, 1) := by decide +kernel
theorem dL_law__969 : decode cL_law_ 969 = .ok (.laload, 1) := by decide +kernel
theorem dL_law__970 : decode cL_law_ 970 = .ok (.iload 6, 2) := by decide +kernel
theorem dL_law__972 : decode cL_law_ 972 = .ok (.i2l, 1) := by decide +kernel
theorem dL_law__973 : decode cL_law_ 973 = .ok (.lcmp, 1) := by decide +kernel
theorem dL_law__974 : decode cL_law_ 974 = .ok (.ifCond .eq 5, 3) := by decide +kernel
theorem dL_law__977 : decode cL_law_ 977 = .ok (.iconst 0, 1) := by decide +kernel
theorem dL_law__978 : decode cL_law_ 978 = .ok (.ireturn, 1) := by decide +kernel
theorem dL_law__979 : decode cL_law_ 979 = .ok (.goto 1944, 3) := by decide +kernel
theorem dL_law__982 : decode cL_law_ 982 = .ok (.aload_n 1, 1) := by decide +kernel
theorem dL_law__983 : decode cL_law_ 983 = .ok (.aload_n 0, 1) := by decide +kernel
theorem dL_law__984 : decode cL_law_ 984 = .ok (.iload 4, 2) := by decide +kernel
theorem dL_law__986 : decode cL_law_ 986 = .ok (.iconst 1, 1) := by decide +kernel
theorem dL_law__987 : decode cL_law_ 987 = .ok (.iadd, 1) := by decide +kernel
theorem dL_law__988 : decode cL_law_ 988 = .ok (.iaload, 1) := by decide +kernel
theorem dL_law__989 : decode cL_law_ 989 = .ok (.aload_n 0, 1) := by decide +kernel
theorem dL_law__990 : decode cL_law_ 990 = .ok (.iload 4, 2) := by decide +kernel
theorem dL_law__992 : decode cL_law_ 992 = .ok (.iconst 2, 1) := by decide +kernel
theorem dL_law__993 : decode cL_law_ 993 = .ok (.iadd, 1) := by decide +kernel
theorem dL_law__994 : decode cL_law_ 994 = .ok (.iaload, 1) := by decide +kernel
theorem dL_law__995 : decode cL_law_ 995 = .ok (.aload_n 3, 1) := by decide +kernel
theorem dL_law__996 : decode cL_law_ 996 = .ok (.invokestatic 182, 3) := by decide +kernel
theorem dL_law__999 : decode cL_law_ 999 = .ok (.istore 5, 2) := by decide +kernel
theorem dL_law__1001 : decode cL_law_ 1001 = .ok (.aload_n 2, 1) := by decide +kernel
theorem dL_law__1002 : decode cL_law_ 1002 = .ok (.aload_n 0, 1) := by decide +kernel
theorem dL_law__1003 : decode cL_law_ 1003 = .ok (.iload 4, 2) := by decide +kernel
theorem dL_law__1005 : decode cL_law_ 1005 = .ok (.iconst 1, 1) := by decide +kernel
theorem dL_law__1006 : decode cL_law_ 1006 = .ok (.iadd, 1) := by decide +kernel
theorem dL_law__1007 : decode cL_law_ 1007 = .ok (.iaload, 1) := by decide +kernel
theorem dL_law__1008 : decode cL_law_ 1008 = .ok (.aload_n 0, 1) := by decide +kernel
theorem dL_law__1009 : decode cL_law_ 1009 = .ok (.iload 4, 2) := by decide +kernel
theorem dL_law__1011 : decode cL_law_ 1011 = .ok (.iconst 2, 1) := by decide +kernel
theorem dL_law__1012 : decode cL_law_ 1012 = .ok (.iadd, 1) := by decide +kernel
theorem dL_law__1013 : decode cL_law_ 1013 = .ok (.iaload, 1) := by decide +kernel
theorem dL_law__1014 : decode cL_law_ 1014 = .ok (.invokevirtual 184, 3) := by decide +kernel
theorem dL_law__1017 : decode cL_law_ 1017 = .ok (.lstore 6, 2) := by decide +kernel
theorem dL_law__1019 : decode cL_law_ 1019 = .ok (.aload_n 2, 1) := by decide +kernel
theorem dL_law__1020 : decode cL_law_ 1020 = .ok (.invokevirtual 140, 3) := by decide +kernel
theorem dL_law__1023 : decode cL_law_ 1023 = .ok (.iload 5, 2) := by decide +kernel
theorem dL_law__1025 : decode cL_law_ 1025 = .ok (.if_icmp .eq 5, 3) := by decide +kernel
theorem dL_law__1028 : decode cL_law_ 1028 = .ok (.iconst 0, 1) := by decide +kernel
theorem dL_law__1029 : decode cL_law_ 1029 = .ok (.ireturn, 1) := by decide +kernel
theorem dL_law__1030 : decode cL_law_ 1030 = .ok (.iload 5, 2) := by decide +kernel
theorem dL_law__1032 : decode cL_law_ 1032 = .ok (.ifCond .ne 14, 3) := by decide +kernel
theorem dL_law__1035 : decode cL_law_ 1035 = .ok (.aload_n 3, 1) := by decide +kernel
theorem dL_law__1036 : decode cL_law_ 1036 = .ok (.iconst 0, 1) := by decide +kernel
theorem dL_law__1037 : decode cL_law_ 1037 = .ok (.laload, 1) := by decide +kernel
theorem dL_law__1038 : decode cL_law_ 1038 = .ok (.lload 6, 2) := by decide +kernel
theorem dL_law__1040 : decode cL_law_ 1040 = .ok (.lcmp, 1) := by decide +kernel
theorem dL_law__1041 : decode cL_law_ 1041 = .ok (.ifCond .eq 5, 3) := by decide +kernel
theorem dL_law__1044 : decode cL_law_ 1044 = .ok (.iconst 0, 1) := by decide +kernel
theorem dL_law__1045 : decode cL_law_ 1045 = .ok (.ireturn, 1) := by decide +kernel
theorem dL_law__1046 : decode cL_law_ 1046 = .ok (.goto 1877, 3) := by decide +kernel
theorem dL_law__1049 : decode cL_law_ 1049 = .ok (.aload_n 1, 1) := by decide +kernel
theorem dL_law__1050 : decode cL_law_ 1050 = .ok (.aload_n 0, 1) := by decide +kernel
theorem dL_law__1051 : decode cL_law_ 1051 = .ok (.iload 4, 2) := by decide +kernel
theorem dL_law__1053 : decode cL_law_ 1053 = .ok (.iconst 1, 1) := by decide +kernel
theorem dL_law__1054 : decode cL_law_ 1054 = .ok (.iadd, 1) := by decide +kernel
theorem dL_law__1055 : decode cL_law_ 1055 = .ok (.iaload, 1) := by decide +kernel
theorem dL_law__1056 : decode cL_law_ 1056 = .ok (.aload_n 3, 1) := by decide +kernel
theorem dL_law__1057 : decode cL_law_ 1057 = .ok (.invokestatic 185, 3) := by decide +kernel
theorem dL_law__1060 : decode cL_law_ 1060 = .ok (.istore 5, 2) := by decide +kernel
theorem dL_law__1062 : decode cL_law_ 1062 = .ok (.aload_n 2, 1) := by decide +kernel
theorem dL_law__1063 : decode cL_law_ 1063 = .ok (.aload_n 0, 1) := by decide +kernel
theorem dL_law__1064 : decode cL_law_ 1064 = .ok (.iload 4, 2) := by decide +kernel
theorem dL_law__1066 : decode cL_law_ 1066 = .ok (.iconst 1, 1) := by decide +kernel
theorem dL_law__1067 : decode cL_law_ 1067 = .ok (.iadd, 1) := by decide +kernel
theorem dL_law__1068 : decode cL_law_ 1068 = .ok (.iaload, 1) := by decide +kernel
theorem dL_law__1069 : decode cL_law_ 1069 = .ok (.invokevirtual 187, 3) := by decide +kernel
theorem dL_law__1072 : decode cL_law_ 1072 = .ok (.istore 6, 2) := by decide +kernel
theorem dL_law__1074 : decode cL_law_ 1074 = .ok (.aload_n 2, 1) := by decide +kernel
theorem dL_law__1075 : decode cL_law_ 1075 = .ok (.invokevirtual 140, 3) := by decide +kernel
theorem dL_law__1078 : decode cL_law_ 1078 = .ok (.iload 5, 2) := by decide +kernel
theorem dL_law__1080 : decode cL_law_ 1080 = .ok (.if_icmp .eq 5, 3) := by decide +kernel
theorem dL_law__1083 : decode cL_law_ 1083 = .ok (.iconst 0, 1) := by decide +kernel
theorem dL_law__1084 : decode cL_law_ 1084 = .ok (.ireturn, 1) := by decide +kernel
theorem dL_law__1085 : decode cL_law_ 1085 = .ok (.iload 5, 2) := by decide +kernel
theorem dL_law__1087 : decode cL_law_ 1087 = .ok (.ifCond .ne 15, 3) := by decide +kernel
theorem dL_law__1090 : decode cL_law_ 1090 = .ok (.aload_n 3, 1) := by decide +kernel
theorem dL_law__1091 : decode cL_law_ 1091 = .ok (.iconst 0, 1) := by decide +kernel
theorem dL_law__1092 : decode cL_law_ 1092 = .ok (.laload, 1) := by decide +kernel
theorem dL_law__1093 : decode cL_law_ 1093 = .ok (.iload 6, 2) := by decide +kernel
theorem dL_law__1095 : decode cL_law_ 1095 = .ok (.i2l, 1) := by decide +kernel
theorem dL_law__1096 : decode cL_law_ 1096 = .ok (.lcmp, 1) := by decide +kernel
theorem dL_law__1097 : decode cL_law_ 1097 = .ok (.ifCond .eq 5, 3) := by decide +kernel
theorem dL_law__1100 : decode cL_law_ 1100 = .ok (.iconst 0, 1) := by decide +kernel
theorem dL_law__1101 : decode cL_law_ 1101 = .ok (.ireturn, 1) := by decide +kernel
theorem dL_law__1102 : decode cL_law_ 1102 = .ok (.goto 1821, 3) := by decide +kernel
theorem dL_law__1105 : decode cL_law_ 1105 = .ok (.aload_n 1, 1) := by decide +kernel
theorem dL_law__1106 : decode cL_law_ 1106 = .ok (.invokevirtual 188, 3) := by decide +kernel
theorem dL_law__1109 : decode cL_law_ 1109 = .ok (.aload_n 2, 1) := by decide +kernel
theorem dL_law__1110 : decode cL_law_ 1110 = .ok (.invokevirtual 191, 3) := by decide +kernel
theorem dL_law__1113 : decode cL_law_ 1113 = .ok (.if_icmp .eq 1810, 3) := by decide +kernel
theorem dL_law__1116 : decode cL_law_ 1116 = .ok (.iconst 0, 1) := by decide +kernel
theorem dL_law__1117 : decode cL_law_ 1117 = .ok (.ireturn, 1) := by decide +kernel
theorem dL_law__1118 : decode cL_law_ 1118 = .ok (.aload_n 1, 1) := by decide +kernel
theorem dL_law__1119 : decode cL_law_ 1119 = .ok (.aload_n 0, 1) := by decide +kernel
theorem dL_law__1120 : decode cL_law_ 1120 = .ok (.iload 4, 2) := by decide +kernel
theorem dL_law__1122 : decode cL_law_ 1122 = .ok (.iconst 1, 1) := by decide +kernel
theorem dL_law__1123 : decode cL_law_ 1123 = .ok (.iadd, 1) := by decide +kernel
theorem dL_law__1124 : decode cL_law_ 1124 = .ok (.iaload, 1) := by decide +kernel
theorem dL_law__1125 : decode cL_law_ 1125 = .ok (.aload_n 0, 1) := by decide +kernel
theorem dL_law__1126 : decode cL_law_ 1126 = .ok (.iload 4, 2) := by decide +kernel
theorem dL_law__1128 : decode cL_law_ 1128 = .ok (.iconst 2, 1) := by decide +kernel
theorem dL_law__1129 : decode cL_law_ 1129 = .ok (.iadd, 1) := by decide +kernel
theorem dL_law__1130 : decode cL_law_ 1130 = .ok (.iaload, 1) := by decide +kernel
theorem dL_law__1131 : decode cL_law_ 1131 = .ok (.ifCond .eq 7, 3) := by decide +kernel
theorem dL_law__1134 : decode cL_law_ 1134 = .ok (.iconst 1, 1) := by decide +kernel
theorem dL_law__1135 : decode cL_law_ 1135 = .ok (.goto 4, 3) := by decide +kernel
theorem dL_law__1138 : decode cL_law_ 1138 = .ok (.iconst 0, 1) := by decide +kernel
theorem dL_law__1139 : decode cL_law_ 1139 = .ok (.aload_n 3, 1) := by decide +kernel
theorem dL_law__1140 : decode cL_law_ 1140 = .ok (.invokestatic 192, 3) := by decide +kernel
theorem dL_law__1143 : decode cL_law_ 1143 = .ok (.istore 5, 2) := by decide +kernel
theorem dL_law__1145 : decode cL_law_ 1145 = .ok (.aload_n 2, 1) := by decide +kernel
theorem dL_law__1146 : decode cL_law_ 1146 = .ok (.aload_n 0, 1) := by decide +kernel
theorem dL_law__1147 : decode cL_law_ 1147 = .ok (.iload 4, 2) := by decide +kernel
theorem dL_law__1149 : decode cL_law_ 1149 = .ok (.iconst 1, 1) := by decide +kernel
theorem dL_law__1150 : decode cL_law_ 1150 = .ok (.iadd, 1) := by decide +kernel
theorem dL_law__1151 : decode cL_law_ 1151 = .ok (.iaload, 1) := by decide +kernel
theorem dL_law__1152 : decode cL_law_ 1152 = .ok (.aload_n 0, 1) := by decide +kernel
theorem dL_law__1153 : decode cL_law_ 1153 = .ok (.iload 4, 2) := by decide +kernel
theorem dL_law__1155 : decode cL_law_ 1155 = .ok (.iconst 2, 1) := by decide +kernel
theorem dL_law__1156 : decode cL_law_ 1156 = .ok (.iadd, 1) := by decide +kernel
theorem dL_law__1157 : decode cL_law_ 1157 = .ok (.iaload, 1) := by decide +kernel
theorem dL_law__1158 : decode cL_law_ 1158 = .ok (.ifCond .eq 7, 3) := by decide +kernel
theorem dL_law__1161 : decode cL_law_ 1161 = .ok (.iconst 1, 1) := by decide +kernel
theorem dL_law__1162 : decode cL_law_ 1162 = .ok (.goto 4, 3) := by decide +kernel
theorem dL_law__1165 : decode cL_law_ 1165 = .ok (.iconst 0, 1) := by decide +kernel
theorem dL_law__1166 : decode cL_law_ 1166 = .ok (.invokevirtual 195, 3) := by decide +kernel
theorem dL_law__1169 : decode cL_law_ 1169 = .ok (.istore 6, 2) := by decide +kernel
theorem dL_law__1171 : decode cL_law_ 1171 = .ok (.aload_n 2, 1) := by decide +kernel
theorem dL_law__1172 : decode cL_law_ 1172 = .ok (.invokevirtual 140, 3) := by decide +kernel
theorem dL_law__1175 : decode cL_law_ 1175 = .ok (.iload 5, 2) := by decide +kernel
theorem dL_law__1177 : decode cL_law_ 1177 = .ok (.if_icmp .eq 5, 3) := by decide +kernel
theorem dL_law__1180 : decode cL_law_ 1180 = .ok (.iconst 0, 1) := by decide +kernel
theorem dL_law__1181 : decode cL_law_ 1181 = .ok (.ireturn, 1) := by decide +kernel
theorem dL_law__1182 : decode cL_law_ 1182 = .ok (.iload 5, 2) := by decide +kernel
theorem dL_law__1184 : decode cL_law_ 1184 = .ok (.ifCond .ne 15, 3) := by decide +kernel
theorem dL_law__1187 : decode cL_law_ 1187 = .ok (.aload_n 3, 1) := by decide +kernel
theorem dL_law__1188 : decode cL_law_ 1188 = .ok (.iconst 0, 1) := by decide +kernel
theorem dL_law__1189 : decode cL_law_ 1189 = .ok (.laload, 1) := by decide +kernel
theorem dL_law__1190 : decode cL_law_ 1190 = .ok (.iload 6, 2) := by decide +kernel
theorem dL_law__1192 : decode cL_law_ 1192 = .ok (.i2l, 1) := by decide +kernel
theorem dL_law__1193 : decode cL_law_ 1193 = .ok (.lcmp, 1) := by decide +kernel
theorem dL_law__1194 : decode cL_law_ 1194 = .ok (.ifCond .eq 5, 3) := by decide +kernel
theorem dL_law__1197 : decode cL_law_ 1197 = .ok (.iconst 0, 1) := by decide +kernel
theorem dL_law__1198 : decode cL_law_ 1198 = .ok (.ireturn, 1) := by decide +kernel
theorem dL_law__1199 : decode cL_law_ 1199 = .ok (.goto 1724, 3) := by decide +kernel
theorem dL_law__1202 : decode cL_law_ 1202 = .ok (.aload_n 1, 1) := by decide +kernel
theorem dL_law__1203 : decode cL_law_ 1203 = .ok (.aload_n 0, 1) := by decide +kernel
theorem dL_law__1204 : decode cL_law_ 1204 = .ok (.iload 4, 2) := by decide +kernel
theorem dL_law__1206 : decode cL_law_ 1206 = .ok (.iconst 1, 1) := by decide +kernel
theorem dL_law__1207 : decode cL_law_ 1207 = .ok (.iadd, 1) := by decide +kernel
theorem dL_law__1208 : decode cL_law_ 1208 = .ok (.iaload, 1) := by decide +kernel
theorem dL_law__1209 : decode cL_law_ 1209 = .ok (.aload_n 0, 1) := by decide +kernel
theorem dL_law__1210 : decode cL_law_ 1210 = .ok (.iload 4, 2) := by decide +kernel
theorem dL_law__1212 : decode cL_law_ 1212 = .ok (.iconst 2, 1) := by decide +kernel
theorem dL_law__1213 : decode cL_law_ 1213 = .ok (.iadd, 1) := by decide +kernel
theorem dL_law__1214 : decode cL_law_ 1214 = .ok (.iaload, 1) := by decide +kernel
theorem dL_law__1215 : decode cL_law_ 1215 = .ok (.aload_n 0, 1) := by decide +kernel
theorem dL_law__1216 : decode cL_law_ 1216 = .ok (.iload 4, 2) := by decide +kernel
theorem dL_law__1218 : decode cL_law_ 1218 = .ok (.iconst 3, 1) := by decide +kernel
theorem dL_law__1219 : decode cL_law_ 1219 = .ok (.iadd, 1) := by decide +kernel
theorem dL_law__1220 : decode cL_law_ 1220 = .ok (.iaload, 1) := by decide +kernel
theorem dL_law__1221 : decode cL_law_ 1221 = .ok (.ifCond .eq 7, 3) := by decide +kernel
theorem dL_law__1224 : decode cL_law_ 1224 = .ok (.iconst 1, 1) := by decide +kernel
theorem dL_law__1225 : decode cL_law_ 1225 = .ok (.goto 4, 3) := by decide +kernel
theorem dL_law__1228 : decode cL_law_ 1228 = .ok (.iconst 0, 1) := by decide +kernel
theorem dL_law__1229 : decode cL_law_ 1229 = .ok (.aload_n 3, 1) := by decide +kernel
theorem dL_law__1230 : decode cL_law_ 1230 = .ok (.invokestatic 196, 3) := by decide +kernel
theorem dL_law__1233 : decode cL_law_ 1233 = .ok (.istore 5, 2) := by decide +kernel
theorem dL_law__1235 : decode cL_law_ 1235 = .ok (.aload_n 2, 1) := by decide +kernel
theorem dL_law__1236 : decode cL_law_ 1236 = .ok (.aload_n 0, 1) := by decide +kernel
theorem dL_law__1237 : decode cL_law_ 1237 = .ok (.iload 4, 2) := by decide +kernel
theorem dL_law__1239 : decode cL_law_ 1239 = .ok (.iconst 1, 1) := by decide +kernel
theorem dL_law__1240 : decode cL_law_ 1240 = .ok (.iadd, 1) := by decide +kernel
theorem dL_law__1241 : decode cL_law_ 1241 = .ok (.iaload, 1) := by decide +kernel
theorem dL_law__1242 : decode cL_law_ 1242 = .ok (.aload_n 0, 1) := by decide +kernel
theorem dL_law__1243 : decode cL_law_ 1243 = .ok (.iload 4, 2) := by decide +kernel
theorem dL_law__1245 : decode cL_law_ 1245 = .ok (.iconst 2, 1) := by decide +kernel
theorem dL_law__1246 : decode cL_law_ 1246 = .ok (.iadd, 1) := by decide +kernel
theorem dL_law__1247 : decode cL_law_ 1247 = .ok (.iaload, 1) := by decide +kernel
theorem dL_law__1248 : decode cL_law_ 1248 = .ok (.aload_n 0, 1) := by decide +kernel
theorem dL_law__1249 : decode cL_law_ 1249 = .ok (.iload 4, 2) := by decide +kernel
theorem dL_law__1251 : decode cL_law_ 1251 = .ok (.iconst 3, 1) := by decide +kernel
theorem dL_law__1252 : decode cL_law_ 1252 = .ok (.iadd, 1) := by decide +kernel
theorem dL_law__1253 : decode cL_law_ 1253 = .ok (.iaload, 1) := by decide +kernel
theorem dL_law__1254 : decode cL_law_ 1254 = .ok (.ifCond .eq 7, 3) := by decide +kernel
theorem dL_law__1257 : decode cL_law_ 1257 = .ok (.iconst 1, 1) := by decide +kernel
theorem dL_law__1258 : decode cL_law_ 1258 = .ok (.goto 4, 3) := by decide +kernel
theorem dL_law__1261 : decode cL_law_ 1261 = .ok (.iconst 0, 1) := by decide +kernel
theorem dL_law__1262 : decode cL_law_ 1262 = .ok (.invokevirtual 199, 3) := by decide +kernel
theorem dL_law__1265 : decode cL_law_ 1265 = .ok (.istore 6, 2) := by decide +kernel
theorem dL_law__1267 : decode cL_law_ 1267 = .ok (.aload_n 2, 1) := by decide +kernel
theorem dL_law__1268 : decode cL_law_ 1268 = .ok (.invokevirtual 140, 3) := by decide +kernel
theorem dL_law__1271 : decode cL_law_ 1271 = .ok (.iload 5, 2) := by decide +kernel
theorem dL_law__1273 : decode cL_law_ 1273 = .ok (.if_icmp .eq 5, 3) := by decide +kernel
theorem dL_law__1276 : decode cL_law_ 1276 = .ok (.iconst 0, 1) := by decide +kernel
theorem dL_law__1277 : decode cL_law_ 1277 = .ok (.ireturn, 1) := by decide +kernel
theorem dL_law__1278 : decode cL_law_ 1278 = .ok (.iload 5, 2) := by decide +kernel
theorem dL_law__1280 : decode cL_law_ 1280 = .ok (.ifCond .ne 22, 3) := by decide +kernel
theorem dL_law__1283 : decode cL_law_ 1283 = .ok (.aload_n 3, 1) := by decide +kernel
theorem dL_law__1284 : decode cL_law_ 1284 = .ok (.iconst 0, 1) := by decide +kernel
theorem dL_law__1285 : decode cL_law_ 1285 = .ok (.laload, 1) := by decide +kernel
theorem dL_law__1286 : decode cL_law_ 1286 = .ok (.iload 6, 2) := by decide +kernel
theorem dL_law__1288 : decode cL_law_ 1288 = .ok (.ifCond .eq 7, 3) := by decide +kernel
theorem dL_law__1291 : decode cL_law_ 1291 = .ok (.lconst 1, 1) := by decide +kernel
theorem dL_law__1292 : decode cL_law_ 1292 = .ok (.goto 4, 3) := by decide +kernel
theorem dL_law__1295 : decode cL_law_ 1295 = .ok (.lconst 0, 1) := by decide +kernel
theorem dL_law__1296 : decode cL_law_ 1296 = .ok (.lcmp, 1) := by decide +kernel
theorem dL_law__1297 : decode cL_law_ 1297 = .ok (.ifCond .eq 5, 3) := by decide +kernel
theorem dL_law__1300 : decode cL_law_ 1300 = .ok (.iconst 0, 1) := by decide +kernel
theorem dL_law__1301 : decode cL_law_ 1301 = .ok (.ireturn, 1) := by decide +kernel
theorem dL_law__1302 : decode cL_law_ 1302 = .ok (.goto 1621, 3) := by decide +kernel
theorem dL_law__1305 : decode cL_law_ 1305 = .ok (.aload_n 1, 1) := by decide +kernel
theorem dL_law__1306 : decode cL_law_ 1306 = .ok (.invokevirtual 200, 3) := by decide +kernel
theorem dL_law__1309 : decode cL_law_ 1309 = .ok (.aload_n 2, 1) := by decide +kernel
theorem dL_law__1310 : decode cL_law_ 1310 = .ok (.invokevirtual 204, 3) := by decide +kernel
theorem dL_law__1313 : decode cL_law_ 1313 = .ok (.lcmp, 1) := by decide +kernel
theorem dL_law__1314 : decode cL_law_ 1314 = .ok (.ifCond .eq 1609, 3) := by decide +kernel
theorem dL_law__1317 : decode cL_law_ 1317 = .ok (.iconst 0, 1) := by decide +kernel
theorem dL_law__1318 : decode cL_law_ 1318 = .ok (.ireturn, 1) := by decide +kernel
theorem dL_law__1319 : decode cL_law_ 1319 = .ok (.aload_n 1, 1) := by decide +kernel
theorem dL_law__1320 : decode cL_law_ 1320 = .ok (.invokevirtual 205, 3) := by decide +kernel
theorem dL_law__1323 : decode cL_law_ 1323 = .ok (.aload_n 2, 1) := by decide +kernel
theorem dL_law__1324 : decode cL_law_ 1324 = .ok (.invokevirtual 208, 3) := by decide +kernel
theorem dL_law__1327 : decode cL_law_ 1327 = .ok (.lcmp, 1) := by decide +kernel
theorem dL_law__1328 : decode cL_law_ 1328 = .ok (.ifCond .eq 1595, 3) := by decide +kernel
theorem dL_law__1331 : decode cL_law_ 1331 = .ok (.iconst 0, 1) := by decide +kernel
theorem dL_law__1332 : decode cL_law_ 1332 = .ok (.ireturn, 1) := by decide +kernel
theorem dL_law__1333 : decode cL_law_ 1333 = .ok (.aload_n 1, 1) := by decide +kernel
theorem dL_law__1334 : decode cL_law_ 1334 = .ok (.aload_n 0, 1) := by decide +kernel
theorem dL_law__1335 : decode cL_law_ 1335 = .ok (.iload 4, 2) := by decide +kernel
theorem dL_law__1337 : decode cL_law_ 1337 = .ok (.iconst 1, 1) := by decide +kernel
theorem dL_law__1338 : decode cL_law_ 1338 = .ok (.iadd, 1) := by decide +kernel
theorem dL_law__1339 : decode cL_law_ 1339 = .ok (.iaload, 1) := by decide +kernel
theorem dL_law__1340 : decode cL_law_ 1340 = .ok (.aload_n 3, 1) := by decide +kernel
theorem dL_law__1341 : decode cL_law_ 1341 = .ok (.invokestatic 209, 3) := by decide +kernel
theorem dL_law__1344 : decode cL_law_ 1344 = .ok (.istore 5, 2) := by decide +kernel
theorem dL_law__1346 : decode cL_law_ 1346 = .ok (.aload_n 2, 1) := by decide +kernel
theorem dL_law__1347 : decode cL_law_ 1347 = .ok (.aload_n 0, 1) := by decide +kernel
theorem dL_law__1348 : decode cL_law_ 1348 = .ok (.iload 4, 2) := by decide +kernel
theorem dL_law__1350 : decode cL_law_ 1350 = .ok (.iconst 1, 1) := by decide +kernel
theorem dL_law__1351 : decode cL_law_ 1351 = .ok (.iadd, 1) := by decide +kernel
theorem dL_law__1352 : decode cL_law_ 1352 = .ok (.iaload, 1) := by decide +kernel
theorem dL_law__1353 : decode cL_law_ 1353 = .ok (.invokevirtual 211, 3) := by decide +kernel
theorem dL_law__1356 : decode cL_law_ 1356 = .ok (.istore 6, 2) := by decide +kernel
theorem dL_law__1358 : decode cL_law_ 1358 = .ok (.aload_n 2, 1) := by decide +kernel
theorem dL_law__1359 : decode cL_law_ 1359 = .ok (.invokevirtual 140, 3) := by decide +kernel
theorem dL_law__1362 : decode cL_law_ 1362 = .ok (.iload 5, 2) := by decide +kernel
theorem dL_law__1364 : decode cL_law_ 1364 = .ok (.if_icmp .eq 5, 3) := by decide +kernel
theorem dL_law__1367 : decode cL_law_ 1367 = .ok (.iconst 0, 1) := by decide +kernel
theorem dL_law__1368 : decode cL_law_ 1368 = .ok (.ireturn, 1) := by decide +kernel
theorem dL_law__1369 : decode cL_law_ 1369 = .ok (.iload 5, 2) := by decide +kernel
theorem dL_law__1371 : decode cL_law_ 1371 = .ok (.ifCond .ne 15, 3) := by decide +kernel
theorem dL_law__1374 : decode cL_law_ 1374 = .ok (.aload_n 3, 1) := by decide +kernel
theorem dL_law__1375 : decode cL_law_ 1375 = .ok (.iconst 0, 1) := by decide +kernel
theorem dL_law__1376 : decode cL_law_ 1376 = .ok (.laload, 1) := by decide +kernel
theorem dL_law__1377 : decode cL_law_ 1377 = .ok (.iload 6, 2) := by decide +kernel
theorem dL_law__1379 : decode cL_law_ 1379 = .ok (.i2l, 1) := by decide +kernel
theorem dL_law__1380 : decode cL_law_ 1380 = .ok (.lcmp, 1) := by decide +kernel
theorem dL_law__1381 : decode cL_law_ 1381 = .ok (.ifCond .eq 5, 3) := by decide +kernel
theorem dL_law__1384 : decode cL_law_ 1384 = .ok (.iconst 0, 1) := by decide +kernel
theorem dL_law__1385 : decode cL_law_ 1385 = .ok (.ireturn, 1) := by decide +kernel
theorem dL_law__1386 : decode cL_law_ 1386 = .ok (.goto 1537, 3) := by decide +kernel
theorem dL_law__1389 : decode cL_law_ 1389 = .ok (.aload_n 1, 1) := by decide +kernel
theorem dL_law__1390 : decode cL_law_ 1390 = .ok (.aload_n 0, 1) := by decide +kernel
theorem dL_law__1391 : decode cL_law_ 1391 = .ok (.iload 4, 2) := by decide +kernel
theorem dL_law__1393 : decode cL_law_ 1393 = .ok (.iconst 1, 1) := by decide +kernel
theorem dL_law__1394 : decode cL_law_ 1394 = .ok (.iadd, 1) := by decide +kernel
theorem dL_law__1395 : decode cL_law_ 1395 = .ok (.iaload, 1) := by decide +kernel
theorem dL_law__1396 : decode cL_law_ 1396 = .ok (.aload_n 0, 1) := by decide +kernel
theorem dL_law__1397 : decode cL_law_ 1397 = .ok (.iload 4, 2) := by decide +kernel
theorem dL_law__1399 : decode cL_law_ 1399 = .ok (.iconst 2, 1) := by decide +kernel
theorem dL_law__1400 : decode cL_law_ 1400 = .ok (.iadd, 1) := by decide +kernel
theorem dL_law__1401 : decode cL_law_ 1401 = .ok (.iaload, 1) := by decide +kernel
theorem dL_law__1402 : decode cL_law_ 1402 = .ok (.aload_n 0, 1) := by decide +kernel
theorem dL_law__1403 : decode cL_law_ 1403 = .ok (.iload 4, 2) := by decide +kernel
theorem dL_law__1405 : decode cL_law_ 1405 = .ok (.iconst 3, 1) := by decide +kernel
theorem dL_law__1406 : decode cL_law_ 1406 = .ok (.iadd, 1) := by decide +kernel
theorem dL_law__1407 : decode cL_law_ 1407 = .ok (.iaload, 1) := by decide +kernel
theorem dL_law__1408 : decode cL_law_ 1408 = .ok (.aload_n 0, 1) := by decide +kernel
theorem dL_law__1409 : decode cL_law_ 1409 = .ok (.iload 4, 2) := by decide +kernel
theorem dL_law__1411 : decode cL_law_ 1411 = .ok (.iconst 4, 1) := by decide +kernel
theorem dL_law__1412 : decode cL_law_ 1412 = .ok (.iadd, 1) := by decide +kernel
theorem dL_law__1413 : decode cL_law_ 1413 = .ok (.iaload, 1) := by decide +kernel
theorem dL_law__1414 : decode cL_law_ 1414 = .ok (.aload_n 0, 1) := by decide +kernel
theorem dL_law__1415 : decode cL_law_ 1415 = .ok (.iload 4, 2) := by decide +kernel
theorem dL_law__1417 : decode cL_law_ 1417 = .ok (.iconst 5, 1) := by decide +kernel
theorem dL_law__1418 : decode cL_law_ 1418 = .ok (.iadd, 1) := by decide +kernel
theorem dL_law__1419 : decode cL_law_ 1419 = .ok (.iaload, 1) := by decide +kernel
theorem dL_law__1420 : decode cL_law_ 1420 = .ok (.ifCond .eq 7, 3) := by decide +kernel
theorem dL_law__1423 : decode cL_law_ 1423 = .ok (.iconst 1, 1) := by decide +kernel
theorem dL_law__1424 : decode cL_law_ 1424 = .ok (.goto 4, 3) := by decide +kernel
theorem dL_law__1427 : decode cL_law_ 1427 = .ok (.iconst 0, 1) := by decide +kernel
theorem dL_law__1428 : decode cL_law_ 1428 = .ok (.aload_n 3, 1) := by decide +kernel
theorem dL_law__1429 : decode cL_law_ 1429 = .ok (.invokestatic 212, 3) := by decide +kernel
theorem dL_law__1432 : decode cL_law_ 1432 = .ok (.istore 5, 2) := by decide +kernel
theorem dL_law__1434 : decode cL_law_ 1434 = .ok (.aload_n 2, 1) := by decide +kernel
theorem dL_law__1435 : decode cL_law_ 1435 = .ok (.aload_n 0, 1) := by decide +kernel
theorem dL_law__1436 : decode cL_law_ 1436 = .ok (.iload 4, 2) := by decide +kernel
theorem dL_law__1438 : decode cL_law_ 1438 = .ok (.iconst 1, 1) := by decide +kernel
theorem dL_law__1439 : decode cL_law_ 1439 = .ok (.iadd, 1) := by decide +kernel
theorem dL_law__1440 : decode cL_law_ 1440 = .ok (.iaload, 1) := by decide +kernel
theorem dL_law__1441 : decode cL_law_ 1441 = .ok (.aload_n 0, 1) := by decide +kernel
theorem dL_law__1442 : decode cL_law_ 1442 = .ok (.iload 4, 2) := by decide +kernel
theorem dL_law__1444 : decode cL_law_ 1444 = .ok (.iconst 2, 1) := by decide +kernel
theorem dL_law__1445 : decode cL_law_ 1445 = .ok (.iadd, 1) := by decide +kernel
theorem dL_law__1446 : decode cL_law_ 1446 = .ok (.iaload, 1) := by decide +kernel
theorem dL_law__1447 : decode cL_law_ 1447 = .ok (.aload_n 0, 1) := by decide +kernel
theorem dL_law__1448 : decode cL_law_ 1448 = .ok (.iload 4, 2) := by decide +kernel
theorem dL_law__1450 : decode cL_law_ 1450 = .ok (.iconst 3, 1) := by decide +kernel
theorem dL_law__1451 : decode cL_law_ 1451 = .ok (.iadd, 1) := by decide +kernel
theorem dL_law__1452 : decode cL_law_ 1452 = .ok (.iaload, 1) := by decide +kernel
theorem dL_law__1453 : decode cL_law_ 1453 = .ok (.aload_n 0, 1) := by decide +kernel
theorem dL_law__1454 : decode cL_law_ 1454 = .ok (.iload 4, 2) := by decide +kernel
theorem dL_law__1456 : decode cL_law_ 1456 = .ok (.iconst 4, 1) := by decide +kernel
theorem dL_law__1457 : decode cL_law_ 1457 = .ok (.iadd, 1) := by decide +kernel
theorem dL_law__1458 : decode cL_law_ 1458 = .ok (.iaload, 1) := by decide +kernel
theorem dL_law__1459 : decode cL_law_ 1459 = .ok (.aload_n 0, 1) := by decide +kernel
theorem dL_law__1460 : decode cL_law_ 1460 = .ok (.iload 4, 2) := by decide +kernel
theorem dL_law__1462 : decode cL_law_ 1462 = .ok (.iconst 5, 1) := by decide +kernel
theorem dL_law__1463 : decode cL_law_ 1463 = .ok (.iadd, 1) := by decide +kernel
theorem dL_law__1464 : decode cL_law_ 1464 = .ok (.iaload, 1) := by decide +kernel
theorem dL_law__1465 : decode cL_law_ 1465 = .ok (.ifCond .eq 7, 3) := by decide +kernel
theorem dL_law__1468 : decode cL_law_ 1468 = .ok (.iconst 1, 1) := by decide +kernel
theorem dL_law__1469 : decode cL_law_ 1469 = .ok (.goto 4, 3) := by decide +kernel
theorem dL_law__1472 : decode cL_law_ 1472 = .ok (.iconst 0, 1) := by decide +kernel
theorem dL_law__1473 : decode cL_law_ 1473 = .ok (.invokevirtual 215, 3) := by decide +kernel
theorem dL_law__1476 : decode cL_law_ 1476 = .ok (.istore 6, 2) := by decide +kernel
theorem dL_law__1478 : decode cL_law_ 1478 = .ok (.aload_n 2, 1) := by decide +kernel
theorem dL_law__1479 : decode cL_law_ 1479 = .ok (.invokevirtual 140, 3) := by decide +kernel
theorem dL_law__1482 : decode cL_law_ 1482 = .ok (.iload 5, 2) := by decide +kernel
theorem dL_law__1484 : decode cL_law_ 1484 = .ok (.if_icmp .eq 5, 3) := by decide +kernel
theorem dL_law__1487 : decode cL_law_ 1487 = .ok (.iconst 0, 1) := by decide +kernel
theorem dL_law__1488 : decode cL_law_ 1488 = .ok (.ireturn, 1) := by decide +kernel
theorem dL_law__1489 : decode cL_law_ 1489 = .ok (.iload 5, 2) := by decide +kernel
theorem dL_law__1491 : decode cL_law_ 1491 = .ok (.ifCond .ne 15, 3) := by decide +kernel
theorem dL_law__1494 : decode cL_law_ 1494 = .ok (.aload_n 3, 1) := by decide +kernel
theorem dL_law__1495 : decode cL_law_ 1495 = .ok (.iconst 0, 1) := by decide +kernel
theorem dL_law__1496 : decode cL_law_ 1496 = .ok (.laload, 1) := by decide +kernel
theorem dL_law__1497 : decode cL_law_ 1497 = .ok (.iload 6, 2) := by decide +kernel
theorem dL_law__1499 : decode cL_law_ 1499 = .ok (.i2l, 1) := by decide +kernel
theorem dL_law__1500 : decode cL_law_ 1500 = .ok (.lcmp, 1) := by decide +kernel
theorem dL_law__1501 : decode cL_law_ 1501 = .ok (.ifCond .eq 5, 3) := by decide +kernel
theorem dL_law__1504 : decode cL_law_ 1504 = .ok (.iconst 0, 1) := by decide +kernel
theorem dL_law__1505 : decode cL_law_ 1505 = .ok (.ireturn, 1) := by decide +kernel
theorem dL_law__1506 : decode cL_law_ 1506 = .ok (.goto 1417, 3) := by decide +kernel
theorem dL_law__1509 : decode cL_law_ 1509 = .ok (.aload_n 1, 1) := by decide +kernel
theorem dL_law__1510 : decode cL_law_ 1510 = .ok (.aload_n 0, 1) := by decide +kernel
theorem dL_law__1511 : decode cL_law_ 1511 = .ok (.iload 4, 2) := by decide +kernel
theorem dL_law__1513 : decode cL_law_ 1513 = .ok (.iconst 1, 1) := by decide +kernel
theorem dL_law__1514 : decode cL_law_ 1514 = .ok (.iadd, 1) := by decide +kernel
theorem dL_law__1515 : decode cL_law_ 1515 = .ok (.iaload, 1) := by decide +kernel
theorem dL_law__1516 : decode cL_law_ 1516 = .ok (.aload_n 0, 1) := by decide +kernel
theorem dL_law__1517 : decode cL_law_ 1517 = .ok (.iload 4, 2) := by decide +kernel
theorem dL_law__1519 : decode cL_law_ 1519 = .ok (.iconst 2, 1) := by decide +kernel
theorem dL_law__1520 : decode cL_law_ 1520 = .ok (.iadd, 1) := by decide +kernel
theorem dL_law__1521 : decode cL_law_ 1521 = .ok (.iaload, 1) := by decide +kernel
theorem dL_law__1522 : decode cL_law_ 1522 = .ok (.aload_n 0, 1) := by decide +kernel
theorem dL_law__1523 : decode cL_law_ 1523 = .ok (.iload 4, 2) := by decide +kernel
theorem dL_law__1525 : decode cL_law_ 1525 = .ok (.iconst 3, 1) := by decide +kernel
theorem dL_law__1526 : decode cL_law_ 1526 = .ok (.iadd, 1) := by decide +kernel
theorem dL_law__1527 : decode cL_law_ 1527 = .ok (.iaload, 1) := by decide +kernel
theorem dL_law__1528 : decode cL_law_ 1528 = .ok (.aload_n 3, 1) := by decide +kernel
theorem dL_law__1529 : decode cL_law_ 1529 = .ok (.invokestatic 216, 3) := by decide +kernel
theorem dL_law__1532 : decode cL_law_ 1532 = .ok (.istore 5, 2) := by decide +kernel
theorem dL_law__1534 : decode cL_law_ 1534 = .ok (.aload_n 2, 1) := by decide +kernel
theorem dL_law__1535 : decode cL_law_ 1535 = .ok (.aload_n 0, 1) := by decide +kernel
theorem dL_law__1536 : decode cL_law_ 1536 = .ok (.iload 4, 2) := by decide +kernel
theorem dL_law__1538 : decode cL_law_ 1538 = .ok (.iconst 1, 1) := by decide +kernel
theorem dL_law__1539 : decode cL_law_ 1539 = .ok (.iadd, 1) := by decide +kernel
theorem dL_law__1540 : decode cL_law_ 1540 = .ok (.iaload, 1) := by decide +kernel
theorem dL_law__1541 : decode cL_law_ 1541 = .ok (.aload_n 0, 1) := by decide +kernel
theorem dL_law__1542 : decode cL_law_ 1542 = .ok (.iload 4, 2) := by decide +kernel
theorem dL_law__1544 : decode cL_law_ 1544 = .ok (.iconst 2, 1) := by decide +kernel
theorem dL_law__1545 : decode cL_law_ 1545 = .ok (.iadd, 1) := by decide +kernel
theorem dL_law__1546 : decode cL_law_ 1546 = .ok (.iaload, 1) := by decide +kernel
theorem dL_law__1547 : decode cL_law_ 1547 = .ok (.aload_n 0, 1) := by decide +kernel
theorem dL_law__1548 : decode cL_law_ 1548 = .ok (.iload 4, 2) := by decide +kernel
theorem dL_law__1550 : decode cL_law_ 1550 = .ok (.iconst 3, 1) := by decide +kernel
theorem dL_law__1551 : decode cL_law_ 1551 = .ok (.iadd, 1) := by decide +kernel
theorem dL_law__1552 : decode cL_law_ 1552 = .ok (.iaload, 1) := by decide +kernel
theorem dL_law__1553 : decode cL_law_ 1553 = .ok (.invokevirtual 218, 3) := by decide +kernel
theorem dL_law__1556 : decode cL_law_ 1556 = .ok (.istore 6, 2) := by decide +kernel
theorem dL_law__1558 : decode cL_law_ 1558 = .ok (.aload_n 2, 1) := by decide +kernel
theorem dL_law__1559 : decode cL_law_ 1559 = .ok (.invokevirtual 140, 3) := by decide +kernel
theorem dL_law__1562 : decode cL_law_ 1562 = .ok (.iload 5, 2) := by decide +kernel
theorem dL_law__1564 : decode cL_law_ 1564 = .ok (.if_icmp .eq 5, 3) := by decide +kernel
theorem dL_law__1567 : decode cL_law_ 1567 = .ok (.iconst 0, 1) := by decide +kernel
theorem dL_law__1568 : decode cL_law_ 1568 = .ok (.ireturn, 1) := by decide +kernel
theorem dL_law__1569 : decode cL_law_ 1569 = .ok (.iload 5, 2) := by decide +kernel
theorem dL_law__1571 : decode cL_law_ 1571 = .ok (.ifCond .ne 15, 3) := by decide +kernel
theorem dL_law__1574 : decode cL_law_ 1574 = .ok (.aload_n 3, 1) := by decide +kernel
theorem dL_law__1575 : decode cL_law_ 1575 = .ok (.iconst 0, 1) := by decide +kernel
theorem dL_law__1576 : decode cL_law_ 1576 = .ok (.laload, 1) := by decide +kernel
theorem dL_law__1577 : decode cL_law_ 1577 = .ok (.iload 6, 2) := by decide +kernel
theorem dL_law__1579 : decode cL_law_ 1579 = .ok (.i2l, 1) := by decide +kernel
theorem dL_law__1580 : decode cL_law_ 1580 = .ok (.lcmp, 1) := by decide +kernel
theorem dL_law__1581 : decode cL_law_ 1581 = .ok (.ifCond .eq 5, 3) := by decide +kernel
theorem dL_law__1584 : decode cL_law_ 1584 = .ok (.iconst 0, 1) := by decide +kernel
theorem dL_law__1585 : decode cL_law_ 1585 = .ok (.ireturn, 1) := by decide +kernel
theorem dL_law__1586 : decode cL_law_ 1586 = .ok (.goto 1337, 3) := by decide +kernel
theorem dL_law__1589 : decode cL_law_ 1589 = .ok (.aload_n 1, 1) := by decide +kernel
theorem dL_law__1590 : decode cL_law_ 1590 = .ok (.aload_n 0, 1) := by decide +kernel
theorem dL_law__1591 : decode cL_law_ 1591 = .ok (.iload 4, 2) := by decide +kernel
theorem dL_law__1593 : decode cL_law_ 1593 = .ok (.iconst 1, 1) := by decide +kernel
theorem dL_law__1594 : decode cL_law_ 1594 = .ok (.iadd, 1) := by decide +kernel
theorem dL_law__1595 : decode cL_law_ 1595 = .ok (.iaload, 1) := by decide +kernel
theorem dL_law__1596 : decode cL_law_ 1596 = .ok (.aload_n 0, 1) := by decide +kernel
theorem dL_law__1597 : decode cL_law_ 1597 = .ok (.iload 4, 2) := by decide +kernel
theorem dL_law__1599 : decode cL_law_ 1599 = .ok (.iconst 2, 1) := by decide +kernel
theorem dL_law__1600 : decode cL_law_ 1600 = .ok (.iadd, 1) := by decide +kernel
theorem dL_law__1601 : decode cL_law_ 1601 = .ok (.iaload, 1) := by decide +kernel
theorem dL_law__1602 : decode cL_law_ 1602 = .ok (.aload_n 0, 1) := by decide +kernel
theorem dL_law__1603 : decode cL_law_ 1603 = .ok (.iload 4, 2) := by decide +kernel
theorem dL_law__1605 : decode cL_law_ 1605 = .ok (.iconst 3, 1) := by decide +kernel
theorem dL_law__1606 : decode cL_law_ 1606 = .ok (.iadd, 1) := by decide +kernel
theorem dL_law__1607 : decode cL_law_ 1607 = .ok (.iaload, 1) := by decide +kernel
theorem dL_law__1608 : decode cL_law_ 1608 = .ok (.aload_n 3, 1) := by decide +kernel
theorem dL_law__1609 : decode cL_law_ 1609 = .ok (.invokestatic 219, 3) := by decide +kernel
theorem dL_law__1612 : decode cL_law_ 1612 = .ok (.istore 5, 2) := by decide +kernel
theorem dL_law__1614 : decode cL_law_ 1614 = .ok (.aload_n 2, 1) := by decide +kernel
theorem dL_law__1615 : decode cL_law_ 1615 = .ok (.aload_n 0, 1) := by decide +kernel
theorem dL_law__1616 : decode cL_law_ 1616 = .ok (.iload 4, 2) := by decide +kernel
theorem dL_law__1618 : decode cL_law_ 1618 = .ok (.iconst 1, 1) := by decide +kernel
theorem dL_law__1619 : decode cL_law_ 1619 = .ok (.iadd, 1) := by decide +kernel
theorem dL_law__1620 : decode cL_law_ 1620 = .ok (.iaload, 1) := by decide +kernel
theorem dL_law__1621 : decode cL_law_ 1621 = .ok (.aload_n 0, 1) := by decide +kernel
theorem dL_law__1622 : decode cL_law_ 1622 = .ok (.iload 4, 2) := by decide +kernel
theorem dL_law__1624 : decode cL_law_ 1624 = .ok (.iconst 2, 1) := by decide +kernel
theorem dL_law__1625 : decode cL_law_ 1625 = .ok (.iadd, 1) := by decide +kernel
theorem dL_law__1626 : decode cL_law_ 1626 = .ok (.iaload, 1) := by decide +kernel
theorem dL_law__1627 : decode cL_law_ 1627 = .ok (.aload_n 0, 1) := by decide +kernel
theorem dL_law__1628 : decode cL_law_ 1628 = .ok (.iload 4, 2) := by decide +kernel
theorem dL_law__1630 : decode cL_law_ 1630 = .ok (.iconst 3, 1) := by decide +kernel
theorem dL_law__1631 : decode cL_law_ 1631 = .ok (.iadd, 1) := by decide +kernel
theorem dL_law__1632 : decode cL_law_ 1632 = .ok (.iaload, 1) := by decide +kernel
theorem dL_law__1633 : decode cL_law_ 1633 = .ok (.invokevirtual 221, 3) := by decide +kernel
theorem dL_law__1636 : decode cL_law_ 1636 = .ok (.istore 6, 2) := by decide +kernel
theorem dL_law__1638 : decode cL_law_ 1638 = .ok (.aload_n 2, 1) := by decide +kernel
theorem dL_law__1639 : decode cL_law_ 1639 = .ok (.invokevirtual 140, 3) := by decide +kernel
theorem dL_law__1642 : decode cL_law_ 1642 = .ok (.iload 5, 2) := by decide +kernel
theorem dL_law__1644 : decode cL_law_ 1644 = .ok (.if_icmp .eq 5, 3) := by decide +kernel
theorem dL_law__1647 : decode cL_law_ 1647 = .ok (.iconst 0, 1) := by decide +kernel
theorem dL_law__1648 : decode cL_law_ 1648 = .ok (.ireturn, 1) := by decide +kernel
theorem dL_law__1649 : decode cL_law_ 1649 = .ok (.iload 5, 2) := by decide +kernel
theorem dL_law__1651 : decode cL_law_ 1651 = .ok (.ifCond .ne 15, 3) := by decide +kernel
theorem dL_law__1654 : decode cL_law_ 1654 = .ok (.aload_n 3, 1) := by decide +kernel
theorem dL_law__1655 : decode cL_law_ 1655 = .ok (.iconst 0, 1) := by decide +kernel
theorem dL_law__1656 : decode cL_law_ 1656 = .ok (.laload, 1) := by decide +kernel
theorem dL_law__1657 : decode cL_law_ 1657 = .ok (.iload 6, 2) := by decide +kernel
theorem dL_law__1659 : decode cL_law_ 1659 = .ok (.i2l, 1) := by decide +kernel
theorem dL_law__1660 : decode cL_law_ 1660 = .ok (.lcmp, 1) := by decide +kernel
theorem dL_law__1661 : decode cL_law_ 1661 = .ok (.ifCond .eq 5, 3) := by decide +kernel
theorem dL_law__1664 : decode cL_law_ 1664 = .ok (.iconst 0, 1) := by decide +kernel
theorem dL_law__1665 : decode cL_law_ 1665 = .ok (.ireturn, 1) := by decide +kernel
theorem dL_law__1666 : decode cL_law_ 1666 = .ok (.goto 1257, 3) := by decide +kernel
theorem dL_law__1669 : decode cL_law_ 1669 = .ok (.aload_n 1, 1) := by decide +kernel
theorem dL_law__1670 : decode cL_law_ 1670 = .ok (.aload_n 0, 1) := by decide +kernel
theorem dL_law__1671 : decode cL_law_ 1671 = .ok (.iload 4, 2) := by decide +kernel
theorem dL_law__1673 : decode cL_law_ 1673 = .ok (.iconst 1, 1) := by decide +kernel
theorem dL_law__1674 : decode cL_law_ 1674 = .ok (.iadd, 1) := by decide +kernel
theorem dL_law__1675 : decode cL_law_ 1675 = .ok (.iaload, 1) := by decide +kernel
theorem dL_law__1676 : decode cL_law_ 1676 = .ok (.aload_n 0, 1) := by decide +kernel
theorem dL_law__1677 : decode cL_law_ 1677 = .ok (.iload 4, 2) := by decide +kernel
theorem dL_law__1679 : decode cL_law_ 1679 = .ok (.iconst 2, 1) := by decide +kernel
theorem dL_law__1680 : decode cL_law_ 1680 = .ok (.iadd, 1) := by decide +kernel
theorem dL_law__1681 : decode cL_law_ 1681 = .ok (.iaload, 1) := by decide +kernel
theorem dL_law__1682 : decode cL_law_ 1682 = .ok (.aload_n 3, 1) := by decide +kernel
theorem dL_law__1683 : decode cL_law_ 1683 = .ok (.invokestatic 222, 3) := by decide +kernel
theorem dL_law__1686 : decode cL_law_ 1686 = .ok (.istore 5, 2) := by decide +kernel
theorem dL_law__1688 : decode cL_law_ 1688 = .ok (.aload_n 2, 1) := by decide +kernel
theorem dL_law__1689 : decode cL_law_ 1689 = .ok (.aload_n 0, 1) := by decide +kernel
theorem dL_law__1690 : decode cL_law_ 1690 = .ok (.iload 4, 2) := by decide +kernel
theorem dL_law__1692 : decode cL_law_ 1692 = .ok (.iconst 1, 1) := by decide +kernel
theorem dL_law__1693 : decode cL_law_ 1693 = .ok (.iadd, 1) := by decide +kernel
theorem dL_law__1694 : decode cL_law_ 1694 = .ok (.iaload, 1) := by decide +kernel
theorem dL_law__1695 : decode cL_law_ 1695 = .ok (.aload_n 0, 1) := by decide +kernel
theorem dL_law__1696 : decode cL_law_ 1696 = .ok (.iload 4, 2) := by decide +kernel
theorem dL_law__1698 : decode cL_law_ 1698 = .ok (.iconst 2, 1) := by decide +kernel
theorem dL_law__1699 : decode cL_law_ 1699 = .ok (.iadd, 1) := by decide +kernel
theorem dL_law__1700 : decode cL_law_ 1700 = .ok (.iaload, 1) := by decide +kernel
theorem dL_law__1701 : decode cL_law_ 1701 = .ok (.invokevirtual 224, 3) := by decide +kernel
theorem dL_law__1704 : decode cL_law_ 1704 = .ok (.istore 6, 2) := by decide +kernel
theorem dL_law__1706 : decode cL_law_ 1706 = .ok (.aload_n 2, 1) := by decide +kernel
theorem dL_law__1707 : decode cL_law_ 1707 = .ok (.invokevirtual 140, 3) := by decide +kernel
theorem dL_law__1710 : decode cL_law_ 1710 = .ok (.iload 5, 2) := by decide +kernel
theorem dL_law__1712 : decode cL_law_ 1712 = .ok (.if_icmp .eq 5, 3) := by decide +kernel
theorem dL_law__1715 : decode cL_law_ 1715 = .ok (.iconst 0, 1) := by decide +kernel
theorem dL_law__1716 : decode cL_law_ 1716 = .ok (.ireturn, 1) := by decide +kernel
theorem dL_law__1717 : decode cL_law_ 1717 = .ok (.iload 5, 2) := by decide +kernel
theorem dL_law__1719 : decode cL_law_ 1719 = .ok (.ifCond .ne 15, 3) := by decide +kernel
theorem dL_law__1722 : decode cL_law_ 1722 = .ok (.aload_n 3, 1) := by decide +kernel
theorem dL_law__1723 : decode cL_law_ 1723 = .ok (.iconst 0, 1) := by decide +kernel
theorem dL_law__1724 : decode cL_law_ 1724 = .ok (.laload, 1) := by decide +kernel
theorem dL_law__1725 : decode cL_law_ 1725 = .ok (.iload 6, 2) := by decide +kernel
theorem dL_law__1727 : decode cL_law_ 1727 = .ok (.i2l, 1) := by decide +kernel
theorem dL_law__1728 : decode cL_law_ 1728 = .ok (.lcmp, 1) := by decide +kernel
theorem dL_law__1729 : decode cL_law_ 1729 = .ok (.ifCond .eq 5, 3) := by decide +kernel
theorem dL_law__1732 : decode cL_law_ 1732 = .ok (.iconst 0, 1) := by decide +kernel
theorem dL_law__1733 : decode cL_law_ 1733 = .ok (.ireturn, 1) := by decide +kernel
theorem dL_law__1734 : decode cL_law_ 1734 = .ok (.goto 1189, 3) := by decide +kernel
theorem dL_law__1737 : decode cL_law_ 1737 = .ok (.aload_n 1, 1) := by decide +kernel
theorem dL_law__1738 : decode cL_law_ 1738 = .ok (.aload_n 0, 1) := by decide +kernel
theorem dL_law__1739 : decode cL_law_ 1739 = .ok (.iload 4, 2) := by decide +kernel
theorem dL_law__1741 : decode cL_law_ 1741 = .ok (.iconst 1, 1) := by decide +kernel
theorem dL_law__1742 : decode cL_law_ 1742 = .ok (.iadd, 1) := by decide +kernel
theorem dL_law__1743 : decode cL_law_ 1743 = .ok (.iaload, 1) := by decide +kernel
theorem dL_law__1744 : decode cL_law_ 1744 = .ok (.aload_n 0, 1) := by decide +kernel
theorem dL_law__1745 : decode cL_law_ 1745 = .ok (.iload 4, 2) := by decide +kernel
theorem dL_law__1747 : decode cL_law_ 1747 = .ok (.iconst 2, 1) := by decide +kernel
theorem dL_law__1748 : decode cL_law_ 1748 = .ok (.iadd, 1) := by decide +kernel
theorem dL_law__1749 : decode cL_law_ 1749 = .ok (.iaload, 1) := by decide +kernel
theorem dL_law__1750 : decode cL_law_ 1750 = .ok (.aload_n 0, 1) := by decide +kernel
theorem dL_law__1751 : decode cL_law_ 1751 = .ok (.iload 4, 2) := by decide +kernel
theorem dL_law__1753 : decode cL_law_ 1753 = .ok (.iconst 3, 1) := by decide +kernel
theorem dL_law__1754 : decode cL_law_ 1754 = .ok (.iadd, 1) := by decide +kernel
theorem dL_law__1755 : decode cL_law_ 1755 = .ok (.iaload, 1) := by decide +kernel
theorem dL_law__1756 : decode cL_law_ 1756 = .ok (.aload_n 0, 1) := by decide +kernel
theorem dL_law__1757 : decode cL_law_ 1757 = .ok (.iload 4, 2) := by decide +kernel
theorem dL_law__1759 : decode cL_law_ 1759 = .ok (.iconst 4, 1) := by decide +kernel
theorem dL_law__1760 : decode cL_law_ 1760 = .ok (.iadd, 1) := by decide +kernel
theorem dL_law__1761 : decode cL_law_ 1761 = .ok (.iaload, 1) := by decide +kernel
theorem dL_law__1762 : decode cL_law_ 1762 = .ok (.aload_n 0, 1) := by decide +kernel
theorem dL_law__1763 : decode cL_law_ 1763 = .ok (.iload 4, 2) := by decide +kernel
theorem dL_law__1765 : decode cL_law_ 1765 = .ok (.iconst 5, 1) := by decide +kernel
theorem dL_law__1766 : decode cL_law_ 1766 = .ok (.iadd, 1) := by decide +kernel
theorem dL_law__1767 : decode cL_law_ 1767 = .ok (.iaload, 1) := by decide +kernel
theorem dL_law__1768 : decode cL_law_ 1768 = .ok (.aload_n 3, 1) := by decide +kernel
theorem dL_law__1769 : decode cL_law_ 1769 = .ok (.invokestatic 225, 3) := by decide +kernel
theorem dL_law__1772 : decode cL_law_ 1772 = .ok (.istore 5, 2) := by decide +kernel
theorem dL_law__1774 : decode cL_law_ 1774 = .ok (.aload_n 2, 1) := by decide +kernel
theorem dL_law__1775 : decode cL_law_ 1775 = .ok (.aload_n 0, 1) := by decide +kernel
theorem dL_law__1776 : decode cL_law_ 1776 = .ok (.iload 4, 2) := by decide +kernel
theorem dL_law__1778 : decode cL_law_ 1778 = .ok (.iconst 1, 1) := by decide +kernel
theorem dL_law__1779 : decode cL_law_ 1779 = .ok (.iadd, 1) := by decide +kernel
theorem dL_law__1780 : decode cL_law_ 1780 = .ok (.iaload, 1) := by decide +kernel
theorem dL_law__1781 : decode cL_law_ 1781 = .ok (.aload_n 0, 1) := by decide +kernel
theorem dL_law__1782 : decode cL_law_ 1782 = .ok (.iload 4, 2) := by decide +kernel
theorem dL_law__1784 : decode cL_law_ 1784 = .ok (.iconst 2, 1) := by decide +kernel
theorem dL_law__1785 : decode cL_law_ 1785 = .ok (.iadd, 1) := by decide +kernel
theorem dL_law__1786 : decode cL_law_ 1786 = .ok (.iaload, 1) := by decide +kernel
theorem dL_law__1787 : decode cL_law_ 1787 = .ok (.aload_n 0, 1) := by decide +kernel
theorem dL_law__1788 : decode cL_law_ 1788 = .ok (.iload 4, 2) := by decide +kernel
theorem dL_law__1790 : decode cL_law_ 1790 = .ok (.iconst 3, 1) := by decide +kernel
theorem dL_law__1791 : decode cL_law_ 1791 = .ok (.iadd, 1) := by decide +kernel
theorem dL_law__1792 : decode cL_law_ 1792 = .ok (.iaload, 1) := by decide +kernel
theorem dL_law__1793 : decode cL_law_ 1793 = .ok (.aload_n 0, 1) := by decide +kernel
theorem dL_law__1794 : decode cL_law_ 1794 = .ok (.iload 4, 2) := by decide +kernel
theorem dL_law__1796 : decode cL_law_ 1796 = .ok (.iconst 4, 1) := by decide +kernel
theorem dL_law__1797 : decode cL_law_ 1797 = .ok (.iadd, 1) := by decide +kernel
theorem dL_law__1798 : decode cL_law_ 1798 = .ok (.iaload, 1) := by decide +kernel
theorem dL_law__1799 : decode cL_law_ 1799 = .ok (.aload_n 0, 1) := by decide +kernel
theorem dL_law__1800 : decode cL_law_ 1800 = .ok (.iload 4, 2) := by decide +kernel
theorem dL_law__1802 : decode cL_law_ 1802 = .ok (.iconst 5, 1) := by decide +kernel
theorem dL_law__1803 : decode cL_law_ 1803 = .ok (.iadd, 1) := by decide +kernel
theorem dL_law__1804 : decode cL_law_ 1804 = .ok (.iaload, 1) := by decide +kernel
theorem dL_law__1805 : decode cL_law_ 1805 = .ok (.invokevirtual 228, 3) := by decide +kernel
theorem dL_law__1808 : decode cL_law_ 1808 = .ok (.istore 6, 2) := by decide +kernel
theorem dL_law__1810 : decode cL_law_ 1810 = .ok (.aload_n 2, 1) := by decide +kernel
theorem dL_law__1811 : decode cL_law_ 1811 = .ok (.invokevirtual 140, 3) := by decide +kernel
theorem dL_law__1814 : decode cL_law_ 1814 = .ok (.iload 5, 2) := by decide +kernel
theorem dL_law__1816 : decode cL_law_ 1816 = .ok (.if_icmp .eq 5, 3) := by decide +kernel
theorem dL_law__1819 : decode cL_law_ 1819 = .ok (.iconst 0, 1) := by decide +kernel
theorem dL_law__1820 : decode cL_law_ 1820 = .ok (.ireturn, 1) := by decide +kernel
theorem dL_law__1821 : decode cL_law_ 1821 = .ok (.iload 5, 2) := by decide +kernel
theorem dL_law__1823 : decode cL_law_ 1823 = .ok (.ifCond .ne 15, 3) := by decide +kernel
theorem dL_law__1826 : decode cL_law_ 1826 = .ok (.aload_n 3, 1) := by decide +kernel
theorem dL_law__1827 : decode cL_law_ 1827 = .ok (.iconst 0, 1) := by decide +kernel
theorem dL_law__1828 : decode cL_law_ 1828 = .ok (.laload, 1) := by decide +kernel
theorem dL_law__1829 : decode cL_law_ 1829 = .ok (.iload 6, 2) := by decide +kernel
theorem dL_law__1831 : decode cL_law_ 1831 = .ok (.i2l, 1) := by decide +kernel
theorem dL_law__1832 : decode cL_law_ 1832 = .ok (.lcmp, 1) := by decide +kernel
theorem dL_law__1833 : decode cL_law_ 1833 = .ok (.ifCond .eq 5, 3) := by decide +kernel
theorem dL_law__1836 : decode cL_law_ 1836 = .ok (.iconst 0, 1) := by decide +kernel
theorem dL_law__1837 : decode cL_law_ 1837 = .ok (.ireturn, 1) := by decide +kernel
theorem dL_law__1838 : decode cL_law_ 1838 = .ok (.goto 1085, 3) := by decide +kernel
theorem dL_law__1841 : decode cL_law_ 1841 = .ok (.aload_n 1, 1) := by decide +kernel
theorem dL_law__1842 : decode cL_law_ 1842 = .ok (.aload_n 0, 1) := by decide +kernel
theorem dL_law__1843 : decode cL_law_ 1843 = .ok (.iload 4, 2) := by decide +kernel
theorem dL_law__1845 : decode cL_law_ 1845 = .ok (.iconst 1, 1) := by decide +kernel
theorem dL_law__1846 : decode cL_law_ 1846 = .ok (.iadd, 1) := by decide +kernel
theorem dL_law__1847 : decode cL_law_ 1847 = .ok (.iaload, 1) := by decide +kernel
theorem dL_law__1848 : decode cL_law_ 1848 = .ok (.aload_n 0, 1) := by decide +kernel
theorem dL_law__1849 : decode cL_law_ 1849 = .ok (.iload 4, 2) := by decide +kernel
theorem dL_law__1851 : decode cL_law_ 1851 = .ok (.iconst 2, 1) := by decide +kernel
theorem dL_law__1852 : decode cL_law_ 1852 = .ok (.iadd, 1) := by decide +kernel
theorem dL_law__1853 : decode cL_law_ 1853 = .ok (.iaload, 1) := by decide +kernel
theorem dL_law__1854 : decode cL_law_ 1854 = .ok (.aload_n 0, 1) := by decide +kernel
theorem dL_law__1855 : decode cL_law_ 1855 = .ok (.iload 4, 2) := by decide +kernel
theorem dL_law__1857 : decode cL_law_ 1857 = .ok (.iconst 3, 1) := by decide +kernel
theorem dL_law__1858 : decode cL_law_ 1858 = .ok (.iadd, 1) := by decide +kernel
theorem dL_law__1859 : decode cL_law_ 1859 = .ok (.iaload, 1) := by decide +kernel
theorem dL_law__1860 : decode cL_law_ 1860 = .ok (.aload_n 0, 1) := by decide +kernel
theorem dL_law__1861 : decode cL_law_ 1861 = .ok (.iload 4, 2) := by decide +kernel
theorem dL_law__1863 : decode cL_law_ 1863 = .ok (.iconst 4, 1) := by decide +kernel
theorem dL_law__1864 : decode cL_law_ 1864 = .ok (.iadd, 1) := by decide +kernel
theorem dL_law__1865 : decode cL_law_ 1865 = .ok (.iaload, 1) := by decide +kernel
theorem dL_law__1866 : decode cL_law_ 1866 = .ok (.aload_n 0, 1) := by decide +kernel
theorem dL_law__1867 : decode cL_law_ 1867 = .ok (.iload 4, 2) := by decide +kernel
theorem dL_law__1869 : decode cL_law_ 1869 = .ok (.iconst 5, 1) := by decide +kernel
theorem dL_law__1870 : decode cL_law_ 1870 = .ok (.iadd, 1) := by decide +kernel
theorem dL_law__1871 : decode cL_law_ 1871 = .ok (.iaload, 1) := by decide +kernel
theorem dL_law__1872 : decode cL_law_ 1872 = .ok (.ifCond .eq 7, 3) := by decide +kernel
theorem dL_law__1875 : decode cL_law_ 1875 = .ok (.iconst 1, 1) := by decide +kernel
theorem dL_law__1876 : decode cL_law_ 1876 = .ok (.goto 4, 3) := by decide +kernel
theorem dL_law__1879 : decode cL_law_ 1879 = .ok (.iconst 0, 1) := by decide +kernel
theorem dL_law__1880 : decode cL_law_ 1880 = .ok (.aload_n 3, 1) := by decide +kernel
theorem dL_law__1881 : decode cL_law_ 1881 = .ok (.invokestatic 229, 3) := by decide +kernel
theorem dL_law__1884 : decode cL_law_ 1884 = .ok (.istore 5, 2) := by decide +kernel
theorem dL_law__1886 : decode cL_law_ 1886 = .ok (.aload_n 2, 1) := by decide +kernel
theorem dL_law__1887 : decode cL_law_ 1887 = .ok (.aload_n 0, 1) := by decide +kernel
theorem dL_law__1888 : decode cL_law_ 1888 = .ok (.iload 4, 2) := by decide +kernel
theorem dL_law__1890 : decode cL_law_ 1890 = .ok (.iconst 1, 1) := by decide +kernel
theorem dL_law__1891 : decode cL_law_ 1891 = .ok (.iadd, 1) := by decide +kernel
theorem dL_law__1892 : decode cL_law_ 1892 = .ok (.iaload, 1) := by decide +kernel
theorem dL_law__1893 : decode cL_law_ 1893 = .ok (.aload_n 0, 1) := by decide +kernel
theorem dL_law__1894 : decode cL_law_ 1894 = .ok (.iload 4, 2) := by decide +kernel
theorem dL_law__1896 : decode cL_law_ 1896 = .ok (.iconst 2, 1) := by decide +kernel
theorem dL_law__1897 : decode cL_law_ 1897 = .ok (.iadd, 1) := by decide +kernel
theorem dL_law__1898 : decode cL_law_ 1898 = .ok (.iaload, 1) := by decide +kernel
theorem dL_law__1899 : decode cL_law_ 1899 = .ok (.aload_n 0, 1) := by decide +kernel
theorem dL_law__1900 : decode cL_law_ 1900 = .ok (.iload 4, 2) := by decide +kernel
theorem dL_law__1902 : decode cL_law_ 1902 = .ok (.iconst 3, 1) := by decide +kernel
theorem dL_law__1903 : decode cL_law_ 1903 = .ok (.iadd, 1) := by decide +kernel
theorem dL_law__1904 : decode cL_law_ 1904 = .ok (.iaload, 1) := by decide +kernel
theorem dL_law__1905 : decode cL_law_ 1905 = .ok (.aload_n 0, 1) := by decide +kernel
theorem dL_law__1906 : decode cL_law_ 1906 = .ok (.iload 4, 2) := by decide +kernel
theorem dL_law__1908 : decode cL_law_ 1908 = .ok (.iconst 4, 1) := by decide +kernel
theorem dL_law__1909 : decode cL_law_ 1909 = .ok (.iadd, 1) := by decide +kernel
theorem dL_law__1910 : decode cL_law_ 1910 = .ok (.iaload, 1) := by decide +kernel
theorem dL_law__1911 : decode cL_law_ 1911 = .ok (.aload_n 0, 1) := by decide +kernel
theorem dL_law__1912 : decode cL_law_ 1912 = .ok (.iload 4, 2) := by decide +kernel
theorem dL_law__1914 : decode cL_law_ 1914 = .ok (.iconst 5, 1) := by decide +kernel
theorem dL_law__1915 : decode cL_law_ 1915 = .ok (.iadd, 1) := by decide +kernel
theorem dL_law__1916 : decode cL_law_ 1916 = .ok (.iaload, 1) := by decide +kernel
theorem dL_law__1917 : decode cL_law_ 1917 = .ok (.ifCond .eq 7, 3) := by decide +kernel
theorem dL_law__1920 : decode cL_law_ 1920 = .ok (.iconst 1, 1) := by decide +kernel
theorem dL_law__1921 : decode cL_law_ 1921 = .ok (.goto 4, 3) := by decide +kernel
theorem dL_law__1924 : decode cL_law_ 1924 = .ok (.iconst 0, 1) := by decide +kernel
theorem dL_law__1925 : decode cL_law_ 1925 = .ok (.invokevirtual 231, 3) := by decide +kernel
theorem dL_law__1928 : decode cL_law_ 1928 = .ok (.lstore 6, 2) := by decide +kernel
theorem dL_law__1930 : decode cL_law_ 1930 = .ok (.aload_n 2, 1) := by decide +kernel
theorem dL_law__1931 : decode cL_law_ 1931 = .ok (.invokevirtual 140, 3) := by decide +kernel
theorem dL_law__1934 : decode cL_law_ 1934 = .ok (.iload 5, 2) := by decide +kernel
theorem dL_law__1936 : decode cL_law_ 1936 = .ok (.if_icmp .eq 5, 3) := by decide +kernel
theorem dL_law__1939 : decode cL_law_ 1939 = .ok (.iconst 0, 1) := by decide +kernel
theorem dL_law__1940 : decode cL_law_ 1940 = .ok (.ireturn, 1) := by decide +kernel
theorem dL_law__1941 : decode cL_law_ 1941 = .ok (.iload 5, 2) := by decide +kernel
theorem dL_law__1943 : decode cL_law_ 1943 = .ok (.ifCond .ne 14, 3) := by decide +kernel
theorem dL_law__1946 : decode cL_law_ 1946 = .ok (.aload_n 3, 1) := by decide +kernel
theorem dL_law__1947 : decode cL_law_ 1947 = .ok (.iconst 0, 1) := by decide +kernel
theorem dL_law__1948 : decode cL_law_ 1948 = .ok (.laload, 1) := by decide +kernel
theorem dL_law__1949 : decode cL_law_ 1949 = .ok (.lload 6, 2) := by decide +kernel
theorem dL_law__1951 : decode cL_law_ 1951 = .ok (.lcmp, 1) := by decide +kernel
theorem dL_law__1952 : decode cL_law_ 1952 = .ok (.ifCond .eq 5, 3) := by decide +kernel
theorem dL_law__1955 : decode cL_law_ 1955 = .ok (.iconst 0, 1) := by decide +kernel
theorem dL_law__1956 : decode cL_law_ 1956 = .ok (.ireturn, 1) := by decide +kernel
theorem dL_law__1957 : decode cL_law_ 1957 = .ok (.goto 966, 3) := by decide +kernel
theorem dL_law__1960 : decode cL_law_ 1960 = .ok (.aload_n 1, 1) := by decide +kernel
theorem dL_law__1961 : decode cL_law_ 1961 = .ok (.aload_n 0, 1) := by decide +kernel
theorem dL_law__1962 : decode cL_law_ 1962 = .ok (.iload 4, 2) := by decide +kernel
theorem dL_law__1964 : decode cL_law_ 1964 = .ok (.iconst 1, 1) := by decide +kernel
theorem dL_law__1965 : decode cL_law_ 1965 = .ok (.iadd, 1) := by decide +kernel
theorem dL_law__1966 : decode cL_law_ 1966 = .ok (.iaload, 1) := by decide +kernel
theorem dL_law__1967 : decode cL_law_ 1967 = .ok (.aload_n 0, 1) := by decide +kernel
theorem dL_law__1968 : decode cL_law_ 1968 = .ok (.iload 4, 2) := by decide +kernel
theorem dL_law__1970 : decode cL_law_ 1970 = .ok (.iconst 2, 1) := by decide +kernel
theorem dL_law__1971 : decode cL_law_ 1971 = .ok (.iadd, 1) := by decide +kernel
theorem dL_law__1972 : decode cL_law_ 1972 = .ok (.iaload, 1) := by decide +kernel
theorem dL_law__1973 : decode cL_law_ 1973 = .ok (.aload_n 0, 1) := by decide +kernel
theorem dL_law__1974 : decode cL_law_ 1974 = .ok (.iload 4, 2) := by decide +kernel
theorem dL_law__1976 : decode cL_law_ 1976 = .ok (.iconst 3, 1) := by decide +kernel
theorem dL_law__1977 : decode cL_law_ 1977 = .ok (.iadd, 1) := by decide +kernel
theorem dL_law__1978 : decode cL_law_ 1978 = .ok (.iaload, 1) := by decide +kernel
theorem dL_law__1979 : decode cL_law_ 1979 = .ok (.aload_n 0, 1) := by decide +kernel
theorem dL_law__1980 : decode cL_law_ 1980 = .ok (.iload 4, 2) := by decide +kernel
theorem dL_law__1982 : decode cL_law_ 1982 = .ok (.iconst 4, 1) := by decide +kernel
theorem dL_law__1983 : decode cL_law_ 1983 = .ok (.iadd, 1) := by decide +kernel
theorem dL_law__1984 : decode cL_law_ 1984 = .ok (.iaload, 1) := by decide +kernel
theorem dL_law__1985 : decode cL_law_ 1985 = .ok (.aload_n 3, 1) := by decide +kernel
theorem dL_law__1986 : decode cL_law_ 1986 = .ok (.invokestatic 232, 3) := by decide +kernel
theorem dL_law__1989 : decode cL_law_ 1989 = .ok (.istore 5, 2) := by decide +kernel
theorem dL_law__1991 : decode cL_law_ 1991 = .ok (.aload_n 2, 1) := by decide +kernel
theorem dL_law__1992 : decode cL_law_ 1992 = .ok (.aload_n 0, 1) := by decide +kernel
theorem dL_law__1993 : decode cL_law_ 1993 = .ok (.iload 4, 2) := by decide +kernel
theorem dL_law__1995 : decode cL_law_ 1995 = .ok (.iconst 1, 1) := by decide +kernel
theorem dL_law__1996 : decode cL_law_ 1996 = .ok (.iadd, 1) := by decide +kernel
theorem dL_law__1997 : decode cL_law_ 1997 = .ok (.iaload, 1) := by decide +kernel
theorem dL_law__1998 : decode cL_law_ 1998 = .ok (.aload_n 0, 1) := by decide +kernel
theorem dL_law__1999 : decode cL_law_ 1999 = .ok (.iload 4, 2) := by decide +kernel
theorem dL_law__2001 : decode cL_law_ 2001 = .ok (.iconst 2, 1) := by decide +kernel
theorem dL_law__2002 : decode cL_law_ 2002 = .ok (.iadd, 1) := by decide +kernel
theorem dL_law__2003 : decode cL_law_ 2003 = .ok (.iaload, 1) := by decide +kernel
theorem dL_law__2004 : decode cL_law_ 2004 = .ok (.aload_n 0, 1) := by decide +kernel
theorem dL_law__2005 : decode cL_law_ 2005 = .ok (.iload 4, 2) := by decide +kernel
theorem dL_law__2007 : decode cL_law_ 2007 = .ok (.iconst 3, 1) := by decide +kernel
theorem dL_law__2008 : decode cL_law_ 2008 = .ok (.iadd, 1) := by decide +kernel
theorem dL_law__2009 : decode cL_law_ 2009 = .ok (.iaload, 1) := by decide +kernel
theorem dL_law__2010 : decode cL_law_ 2010 = .ok (.aload_n 0, 1) := by decide +kernel
theorem dL_law__2011 : decode cL_law_ 2011 = .ok (.iload 4, 2) := by decide +kernel
theorem dL_law__2013 : decode cL_law_ 2013 = .ok (.iconst 4, 1) := by decide +kernel
theorem dL_law__2014 : decode cL_law_ 2014 = .ok (.iadd, 1) := by decide +kernel
theorem dL_law__2015 : decode cL_law_ 2015 = .ok (.iaload, 1) := by decide +kernel
theorem dL_law__2016 : decode cL_law_ 2016 = .ok (.invokevirtual 234, 3) := by decide +kernel
theorem dL_law__2019 : decode cL_law_ 2019 = .ok (.istore 6, 2) := by decide +kernel
theorem dL_law__2021 : decode cL_law_ 2021 = .ok (.aload_n 2, 1) := by decide +kernel
theorem dL_law__2022 : decode cL_law_ 2022 = .ok (.invokevirtual 140, 3) := by decide +kernel
theorem dL_law__2025 : decode cL_law_ 2025 = .ok (.iload 5, 2) := by decide +kernel
theorem dL_law__2027 : decode cL_law_ 2027 = .ok (.if_icmp .eq 5, 3) := by decide +kernel
theorem dL_law__2030 : decode cL_law_ 2030 = .ok (.iconst 0, 1) := by decide +kernel
theorem dL_law__2031 : decode cL_law_ 2031 = .ok (.ireturn, 1) := by decide +kernel
theorem dL_law__2032 : decode cL_law_ 2032 = .ok (.iload 5, 2) := by decide +kernel
theorem dL_law__2034 : decode cL_law_ 2034 = .ok (.ifCond .ne 15, 3) := by decide +kernel
theorem dL_law__2037 : decode cL_law_ 2037 = .ok (.aload_n 3, 1) := by decide +kernel
theorem dL_law__2038 : decode cL_law_ 2038 = .ok (.iconst 0, 1) := by decide +kernel
theorem dL_law__2039 : decode cL_law_ 2039 = .ok (.laload, 1) := by decide +kernel
theorem dL_law__2040 : decode cL_law_ 2040 = .ok (.iload 6, 2) := by decide +kernel
theorem dL_law__2042 : decode cL_law_ 2042 = .ok (.i2l, 1) := by decide +kernel
theorem dL_law__2043 : decode cL_law_ 2043 = .ok (.lcmp, 1) := by decide +kernel
theorem dL_law__2044 : decode cL_law_ 2044 = .ok (.ifCond .eq 5, 3) := by decide +kernel
theorem dL_law__2047 : decode cL_law_ 2047 = .ok (.iconst 0, 1) := by decide +kernel
theorem dL_law__2048 : decode cL_law_ 2048 = .ok (.ireturn, 1) := by decide +kernel
theorem dL_law__2049 : decode cL_law_ 2049 = .ok (.goto 874, 3) := by decide +kernel
theorem dL_law__2052 : decode cL_law_ 2052 = .ok (.aload_n 1, 1) := by decide +kernel
theorem dL_law__2053 : decode cL_law_ 2053 = .ok (.aload_n 0, 1) := by decide +kernel
theorem dL_law__2054 : decode cL_law_ 2054 = .ok (.iload 4, 2) := by decide +kernel
theorem dL_law__2056 : decode cL_law_ 2056 = .ok (.iconst 1, 1) := by decide +kernel
theorem dL_law__2057 : decode cL_law_ 2057 = .ok (.iadd, 1) := by decide +kernel
theorem dL_law__2058 : decode cL_law_ 2058 = .ok (.iaload, 1) := by decide +kernel
theorem dL_law__2059 : decode cL_law_ 2059 = .ok (.aload_n 0, 1) := by decide +kernel
theorem dL_law__2060 : decode cL_law_ 2060 = .ok (.iload 4, 2) := by decide +kernel
theorem dL_law__2062 : decode cL_law_ 2062 = .ok (.iconst 2, 1) := by decide +kernel
theorem dL_law__2063 : decode cL_law_ 2063 = .ok (.iadd, 1) := by decide +kernel
theorem dL_law__2064 : decode cL_law_ 2064 = .ok (.iaload, 1) := by decide +kernel
theorem dL_law__2065 : decode cL_law_ 2065 = .ok (.aload_n 0, 1) := by decide +kernel
theorem dL_law__2066 : decode cL_law_ 2066 = .ok (.iload 4, 2) := by decide +kernel
theorem dL_law__2068 : decode cL_law_ 2068 = .ok (.iconst 3, 1) := by decide +kernel
theorem dL_law__2069 : decode cL_law_ 2069 = .ok (.iadd, 1) := by decide +kernel
theorem dL_law__2070 : decode cL_law_ 2070 = .ok (.iaload, 1) := by decide +kernel
theorem dL_law__2071 : decode cL_law_ 2071 = .ok (.aload_n 0, 1) := by decide +kernel
theorem dL_law__2072 : decode cL_law_ 2072 = .ok (.iload 4, 2) := by decide +kernel
theorem dL_law__2074 : decode cL_law_ 2074 = .ok (.iconst 4, 1) := by decide +kernel
theorem dL_law__2075 : decode cL_law_ 2075 = .ok (.iadd, 1) := by decide +kernel
theorem dL_law__2076 : decode cL_law_ 2076 = .ok (.iaload, 1) := by decide +kernel
theorem dL_law__2077 : decode cL_law_ 2077 = .ok (.aload_n 3, 1) := by decide +kernel
theorem dL_law__2078 : decode cL_law_ 2078 = .ok (.invokestatic 235, 3) := by decide +kernel
theorem dL_law__2081 : decode cL_law_ 2081 = .ok (.istore 5, 2) := by decide +kernel
theorem dL_law__2083 : decode cL_law_ 2083 = .ok (.aload_n 2, 1) := by decide +kernel
theorem dL_law__2084 : decode cL_law_ 2084 = .ok (.aload_n 0, 1) := by decide +kernel
theorem dL_law__2085 : decode cL_law_ 2085 = .ok (.iload 4, 2) := by decide +kernel
theorem dL_law__2087 : decode cL_law_ 2087 = .ok (.iconst 1, 1) := by decide +kernel
theorem dL_law__2088 : decode cL_law_ 2088 = .ok (.iadd, 1) := by decide +kernel
theorem dL_law__2089 : decode cL_law_ 2089 = .ok (.iaload, 1) := by decide +kernel
theorem dL_law__2090 : decode cL_law_ 2090 = .ok (.aload_n 0, 1) := by decide +kernel
theorem dL_law__2091 : decode cL_law_ 2091 = .ok (.iload 4, 2) := by decide +kernel
theorem dL_law__2093 : decode cL_law_ 2093 = .ok (.iconst 2, 1) := by decide +kernel
theorem dL_law__2094 : decode cL_law_ 2094 = .ok (.iadd, 1) := by decide +kernel
theorem dL_law__2095 : decode cL_law_ 2095 = .ok (.iaload, 1) := by decide +kernel
theorem dL_law__2096 : decode cL_law_ 2096 = .ok (.aload_n 0, 1) := by decide +kernel
theorem dL_law__2097 : decode cL_law_ 2097 = .ok (.iload 4, 2) := by decide +kernel
theorem dL_law__2099 : decode cL_law_ 2099 = .ok (.iconst 3, 1) := by decide +kernel
theorem dL_law__2100 : decode cL_law_ 2100 = .ok (.iadd, 1) := by decide +kernel
theorem dL_law__2101 : decode cL_law_ 2101 = .ok (.iaload, 1) := by decide +kernel
theorem dL_law__2102 : decode cL_law_ 2102 = .ok (.aload_n 0, 1) := by decide +kernel
theorem dL_law__2103 : decode cL_law_ 2103 = .ok (.iload 4, 2) := by decide +kernel
theorem dL_law__2105 : decode cL_law_ 2105 = .ok (.iconst 4, 1) := by decide +kernel
theorem dL_law__2106 : decode cL_law_ 2106 = .ok (.iadd, 1) := by decide +kernel
theorem dL_law__2107 : decode cL_law_ 2107 = .ok (.iaload, 1) := by decide +kernel
theorem dL_law__2108 : decode cL_law_ 2108 = .ok (.invokevirtual 237, 3) := by decide +kernel
theorem dL_law__2111 : decode cL_law_ 2111 = .ok (.istore 6, 2) := by decide +kernel
theorem dL_law__2113 : decode cL_law_ 2113 = .ok (.aload_n 2, 1) := by decide +kernel
theorem dL_law__2114 : decode cL_law_ 2114 = .ok (.invokevirtual 140, 3) := by decide +kernel
theorem dL_law__2117 : decode cL_law_ 2117 = .ok (.iload 5, 2) := by decide +kernel
theorem dL_law__2119 : decode cL_law_ 2119 = .ok (.if_icmp .eq 5, 3) := by decide +kernel
theorem dL_law__2122 : decode cL_law_ 2122 = .ok (.iconst 0, 1) := by decide +kernel
theorem dL_law__2123 : decode cL_law_ 2123 = .ok (.ireturn, 1) := by decide +kernel
theorem dL_law__2124 : decode cL_law_ 2124 = .ok (.iload 5, 2) := by decide +kernel
theorem dL_law__2126 : decode cL_law_ 2126 = .ok (.ifCond .ne 15, 3) := by decide +kernel
theorem dL_law__2129 : decode cL_law_ 2129 = .ok (.aload_n 3, 1) := by decide +kernel
theorem dL_law__2130 : decode cL_law_ 2130 = .ok (.iconst 0, 1) := by decide +kernel
theorem dL_law__2131 : decode cL_law_ 2131 = .ok (.laload, 1) := by decide +kernel
theorem dL_law__2132 : decode cL_law_ 2132 = .ok (.iload 6, 2) := by decide +kernel
theorem dL_law__2134 : decode cL_law_ 2134 = .ok (.i2l, 1) := by decide +kernel
theorem dL_law__2135 : decode cL_law_ 2135 = .ok (.lcmp, 1) := by decide +kernel
theorem dL_law__2136 : decode cL_law_ 2136 = .ok (.ifCond .eq 5, 3) := by decide +kernel
theorem dL_law__2139 : decode cL_law_ 2139 = .ok (.iconst 0, 1) := by decide +kernel
theorem dL_law__2140 : decode cL_law_ 2140 = .ok (.ireturn, 1) := by decide +kernel
theorem dL_law__2141 : decode cL_law_ 2141 = .ok (.goto 782, 3) := by decide +kernel
theorem dL_law__2144 : decode cL_law_ 2144 = .ok (.aload_n 1, 1) := by decide +kernel
theorem dL_law__2145 : decode cL_law_ 2145 = .ok (.aload_n 0, 1) := by decide +kernel
theorem dL_law__2146 : decode cL_law_ 2146 = .ok (.iload 4, 2) := by decide +kernel
theorem dL_law__2148 : decode cL_law_ 2148 = .ok (.iconst 1, 1) := by decide +kernel
theorem dL_law__2149 : decode cL_law_ 2149 = .ok (.iadd, 1) := by decide +kernel
theorem dL_law__2150 : decode cL_law_ 2150 = .ok (.iaload, 1) := by decide +kernel
theorem dL_law__2151 : decode cL_law_ 2151 = .ok (.aload_n 0, 1) := by decide +kernel
theorem dL_law__2152 : decode cL_law_ 2152 = .ok (.iload 4, 2) := by decide +kernel
theorem dL_law__2154 : decode cL_law_ 2154 = .ok (.iconst 2, 1) := by decide +kernel
theorem dL_law__2155 : decode cL_law_ 2155 = .ok (.iadd, 1) := by decide +kernel
theorem dL_law__2156 : decode cL_law_ 2156 = .ok (.iaload, 1) := by decide +kernel
theorem dL_law__2157 : decode cL_law_ 2157 = .ok (.aload_n 0, 1) := by decide +kernel
theorem dL_law__2158 : decode cL_law_ 2158 = .ok (.iload 4, 2) := by decide +kernel
theorem dL_law__2160 : decode cL_law_ 2160 = .ok (.iconst 3, 1) := by decide +kernel
theorem dL_law__2161 : decode cL_law_ 2161 = .ok (.iadd, 1) := by decide +kernel
theorem dL_law__2162 : decode cL_law_ 2162 = .ok (.iaload, 1) := by decide +kernel
theorem dL_law__2163 : decode cL_law_ 2163 = .ok (.aload_n 0, 1) := by decide +kernel
theorem dL_law__2164 : decode cL_law_ 2164 = .ok (.iload 4, 2) := by decide +kernel
theorem dL_law__2166 : decode cL_law_ 2166 = .ok (.iconst 4, 1) := by decide +kernel
theorem dL_law__2167 : decode cL_law_ 2167 = .ok (.iadd, 1) := by decide +kernel
theorem dL_law__2168 : decode cL_law_ 2168 = .ok (.iaload, 1) := by decide +kernel
theorem dL_law__2169 : decode cL_law_ 2169 = .ok (.aload_n 0, 1) := by decide +kernel
theorem dL_law__2170 : decode cL_law_ 2170 = .ok (.iload 4, 2) := by decide +kernel
theorem dL_law__2172 : decode cL_law_ 2172 = .ok (.iconst 5, 1) := by decide +kernel
theorem dL_law__2173 : decode cL_law_ 2173 = .ok (.iadd, 1) := by decide +kernel
theorem dL_law__2174 : decode cL_law_ 2174 = .ok (.iaload, 1) := by decide +kernel
theorem dL_law__2175 : decode cL_law_ 2175 = .ok (.aload_n 3, 1) := by decide +kernel
theorem dL_law__2176 : decode cL_law_ 2176 = .ok (.invokestatic 238, 3) := by decide +kernel
theorem dL_law__2179 : decode cL_law_ 2179 = .ok (.istore 5, 2) := by decide +kernel
theorem dL_law__2181 : decode cL_law_ 2181 = .ok (.aload_n 2, 1) := by decide +kernel
theorem dL_law__2182 : decode cL_law_ 2182 = .ok (.aload_n 0, 1) := by decide +kernel
theorem dL_law__2183 : decode cL_law_ 2183 = .ok (.iload 4, 2) := by decide +kernel
theorem dL_law__2185 : decode cL_law_ 2185 = .ok (.iconst 1, 1) := by decide +kernel
theorem dL_law__2186 : decode cL_law_ 2186 = .ok (.iadd, 1) := by decide +kernel
theorem dL_law__2187 : decode cL_law_ 2187 = .ok (.iaload, 1) := by decide +kernel
theorem dL_law__2188 : decode cL_law_ 2188 = .ok (.aload_n 0, 1) := by decide +kernel
theorem dL_law__2189 : decode cL_law_ 2189 = .ok (.iload 4, 2) := by decide +kernel
theorem dL_law__2191 : decode cL_law_ 2191 = .ok (.iconst 2, 1) := by decide +kernel
theorem dL_law__2192 : decode cL_law_ 2192 = .ok (.iadd, 1) := by decide +kernel
theorem dL_law__2193 : decode cL_law_ 2193 = .ok (.iaload, 1) := by decide +kernel
theorem dL_law__2194 : decode cL_law_ 2194 = .ok (.aload_n 0, 1) := by decide +kernel
theorem dL_law__2195 : decode cL_law_ 2195 = .ok (.iload 4, 2) := by decide +kernel
theorem dL_law__2197 : decode cL_law_ 2197 = .ok (.iconst 3, 1) := by decide +kernel
theorem dL_law__2198 : decode cL_law_ 2198 = .ok (.iadd, 1) := by decide +kernel
theorem dL_law__2199 : decode cL_law_ 2199 = .ok (.iaload, 1) := by decide +kernel
theorem dL_law__2200 : decode cL_law_ 2200 = .ok (.aload_n 0, 1) := by decide +kernel
theorem dL_law__2201 : decode cL_law_ 2201 = .ok (.iload 4, 2) := by decide +kernel
theorem dL_law__2203 : decode cL_law_ 2203 = .ok (.iconst 4, 1) := by decide +kernel
theorem dL_law__2204 : decode cL_law_ 2204 = .ok (.iadd, 1) := by decide +kernel
theorem dL_law__2205 : decode cL_law_ 2205 = .ok (.iaload, 1) := by decide +kernel
theorem dL_law__2206 : decode cL_law_ 2206 = .ok (.aload_n 0, 1) := by decide +kernel
theorem dL_law__2207 : decode cL_law_ 2207 = .ok (.iload 4, 2) := by decide +kernel
theorem dL_law__2209 : decode cL_law_ 2209 = .ok (.iconst 5, 1) := by decide +kernel
theorem dL_law__2210 : decode cL_law_ 2210 = .ok (.iadd, 1) := by decide +kernel
theorem dL_law__2211 : decode cL_law_ 2211 = .ok (.iaload, 1) := by decide +kernel
theorem dL_law__2212 : decode cL_law_ 2212 = .ok (.invokevirtual 240, 3) := by decide +kernel
theorem dL_law__2215 : decode cL_law_ 2215 = .ok (.istore 6, 2) := by decide +kernel
theorem dL_law__2217 : decode cL_law_ 2217 = .ok (.aload_n 2, 1) := by decide +kernel
theorem dL_law__2218 : decode cL_law_ 2218 = .ok (.invokevirtual 140, 3) := by decide +kernel
theorem dL_law__2221 : decode cL_law_ 2221 = .ok (.iload 5, 2) := by decide +kernel
theorem dL_law__2223 : decode cL_law_ 2223 = .ok (.if_icmp .eq 5, 3) := by decide +kernel
theorem dL_law__2226 : decode cL_law_ 2226 = .ok (.iconst 0, 1) := by decide +kernel
theorem dL_law__2227 : decode cL_law_ 2227 = .ok (.ireturn, 1) := by decide +kernel
theorem dL_law__2228 : decode cL_law_ 2228 = .ok (.iload 5, 2) := by decide +kernel
theorem dL_law__2230 : decode cL_law_ 2230 = .ok (.ifCond .ne 15, 3) := by decide +kernel
theorem dL_law__2233 : decode cL_law_ 2233 = .ok (.aload_n 3, 1) := by decide +kernel
theorem dL_law__2234 : decode cL_law_ 2234 = .ok (.iconst 0, 1) := by decide +kernel
theorem dL_law__2235 : decode cL_law_ 2235 = .ok (.laload, 1) := by decide +kernel
theorem dL_law__2236 : decode cL_law_ 2236 = .ok (.iload 6, 2) := by decide +kernel
theorem dL_law__2238 : decode cL_law_ 2238 = .ok (.i2l, 1) := by decide +kernel
theorem dL_law__2239 : decode cL_law_ 2239 = .ok (.lcmp, 1) := by decide +kernel
theorem dL_law__2240 : decode cL_law_ 2240 = .ok (.ifCond .eq 5, 3) := by decide +kernel
theorem dL_law__2243 : decode cL_law_ 2243 = .ok (.iconst 0, 1) := by decide +kernel
theorem dL_law__2244 : decode cL_law_ 2244 = .ok (.ireturn, 1) := by decide +kernel
theorem dL_law__2245 : decode cL_law_ 2245 = .ok (.goto 678, 3) := by decide +kernel
theorem dL_law__2248 : decode cL_law_ 2248 = .ok (.aload_n 1, 1) := by decide +kernel
theorem dL_law__2249 : decode cL_law_ 2249 = .ok (.aload_n 0, 1) := by decide +kernel
theorem dL_law__2250 : decode cL_law_ 2250 = .ok (.iload 4, 2) := by decide +kernel
theorem dL_law__2252 : decode cL_law_ 2252 = .ok (.iconst 1, 1) := by decide +kernel
theorem dL_law__2253 : decode cL_law_ 2253 = .ok (.iadd, 1) := by decide +kernel
theorem dL_law__2254 : decode cL_law_ 2254 = .ok (.iaload, 1) := by decide +kernel
theorem dL_law__2255 : decode cL_law_ 2255 = .ok (.aload_n 0, 1) := by decide +kernel
theorem dL_law__2256 : decode cL_law_ 2256 = .ok (.iload 4, 2) := by decide +kernel
theorem dL_law__2258 : decode cL_law_ 2258 = .ok (.iconst 2, 1) := by decide +kernel
theorem dL_law__2259 : decode cL_law_ 2259 = .ok (.iadd, 1) := by decide +kernel
theorem dL_law__2260 : decode cL_law_ 2260 = .ok (.iaload, 1) := by decide +kernel
theorem dL_law__2261 : decode cL_law_ 2261 = .ok (.aload_n 3, 1) := by decide +kernel
theorem dL_law__2262 : decode cL_law_ 2262 = .ok (.invokestatic 241, 3) := by decide +kernel
theorem dL_law__2265 : decode cL_law_ 2265 = .ok (.istore 5, 2) := by decide +kernel
theorem dL_law__2267 : decode cL_law_ 2267 = .ok (.aload_n 2, 1) := by decide +kernel
theorem dL_law__2268 : decode cL_law_ 2268 = .ok (.aload_n 0, 1) := by decide +kernel
theorem dL_law__2269 : decode cL_law_ 2269 = .ok (.iload 4, 2) := by decide +kernel
theorem dL_law__2271 : decode cL_law_ 2271 = .ok (.iconst 1, 1) := by decide +kernel
theorem dL_law__2272 : decode cL_law_ 2272 = .ok (.iadd, 1) := by decide +kernel
theorem dL_law__2273 : decode cL_law_ 2273 = .ok (.iaload, 1) := by decide +kernel
theorem dL_law__2274 : decode cL_law_ 2274 = .ok (.aload_n 0, 1) := by decide +kernel
theorem dL_law__2275 : decode cL_law_ 2275 = .ok (.iload 4, 2) := by decide +kernel
theorem dL_law__2277 : decode cL_law_ 2277 = .ok (.iconst 2, 1) := by decide +kernel
theorem dL_law__2278 : decode cL_law_ 2278 = .ok (.iadd, 1) := by decide +kernel
theorem dL_law__2279 : decode cL_law_ 2279 = .ok (.iaload, 1) := by decide +kernel
theorem dL_law__2280 : decode cL_law_ 2280 = .ok (.invokevirtual 243, 3) := by decide +kernel
theorem dL_law__2283 : decode cL_law_ 2283 = .ok (.istore 6, 2) := by decide +kernel
theorem dL_law__2285 : decode cL_law_ 2285 = .ok (.aload_n 2, 1) := by decide +kernel
theorem dL_law__2286 : decode cL_law_ 2286 = .ok (.invokevirtual 140, 3) := by decide +kernel
theorem dL_law__2289 : decode cL_law_ 2289 = .ok (.iload 5, 2) := by decide +kernel
theorem dL_law__2291 : decode cL_law_ 2291 = .ok (.if_icmp .eq 5, 3) := by decide +kernel
theorem dL_law__2294 : decode cL_law_ 2294 = .ok (.iconst 0, 1) := by decide +kernel
theorem dL_law__2295 : decode cL_law_ 2295 = .ok (.ireturn, 1) := by decide +kernel
theorem dL_law__2296 : decode cL_law_ 2296 = .ok (.iload 5, 2) := by decide +kernel
theorem dL_law__2298 : decode cL_law_ 2298 = .ok (.ifCond .ne 22, 3) := by decide +kernel
theorem dL_law__2301 : decode cL_law_ 2301 = .ok (.aload_n 3, 1) := by decide +kernel
theorem dL_law__2302 : decode cL_law_ 2302 = .ok (.iconst 0, 1) := by decide +kernel
theorem dL_law__2303 : decode cL_law_ 2303 = .ok (.laload, 1) := by decide +kernel
theorem dL_law__2304 : decode cL_law_ 2304 = .ok (.iload 6, 2) := by decide +kernel
theorem dL_law__2306 : decode cL_law_ 2306 = .ok (.ifCond .eq 7, 3) := by decide +kernel
theorem dL_law__2309 : decode cL_law_ 2309 = .ok (.lconst 1, 1) := by decide +kernel
theorem dL_law__2310 : decode cL_law_ 2310 = .ok (.goto 4, 3) := by decide +kernel
theorem dL_law__2313 : decode cL_law_ 2313 = .ok (.lconst 0, 1) := by decide +kernel
theorem dL_law__2314 : decode cL_law_ 2314 = .ok (.lcmp, 1) := by decide +kernel
theorem dL_law__2315 : decode cL_law_ 2315 = .ok (.ifCond .eq 5, 3) := by decide +kernel
theorem dL_law__2318 : decode cL_law_ 2318 = .ok (.iconst 0, 1) := by decide +kernel
theorem dL_law__2319 : decode cL_law_ 2319 = .ok (.ireturn, 1) := by decide +kernel
theorem dL_law__2320 : decode cL_law_ 2320 = .ok (.goto 603, 3) := by decide +kernel
theorem dL_law__2323 : decode cL_law_ 2323 = .ok (.aload_n 1, 1) := by decide +kernel
theorem dL_law__2324 : decode cL_law_ 2324 = .ok (.aload_n 0, 1) := by decide +kernel
theorem dL_law__2325 : decode cL_law_ 2325 = .ok (.iload 4, 2) := by decide +kernel
theorem dL_law__2327 : decode cL_law_ 2327 = .ok (.iconst 1, 1) := by decide +kernel
theorem dL_law__2328 : decode cL_law_ 2328 = .ok (.iadd, 1) := by decide +kernel
theorem dL_law__2329 : decode cL_law_ 2329 = .ok (.iaload, 1) := by decide +kernel
theorem dL_law__2330 : decode cL_law_ 2330 = .ok (.aload_n 0, 1) := by decide +kernel
theorem dL_law__2331 : decode cL_law_ 2331 = .ok (.iload 4, 2) := by decide +kernel
theorem dL_law__2333 : decode cL_law_ 2333 = .ok (.iconst 2, 1) := by decide +kernel
theorem dL_law__2334 : decode cL_law_ 2334 = .ok (.iadd, 1) := by decide +kernel
theorem dL_law__2335 : decode cL_law_ 2335 = .ok (.iaload, 1) := by decide +kernel
theorem dL_law__2336 : decode cL_law_ 2336 = .ok (.aload_n 0, 1) := by decide +kernel
theorem dL_law__2337 : decode cL_law_ 2337 = .ok (.iload 4, 2) := by decide +kernel
theorem dL_law__2339 : decode cL_law_ 2339 = .ok (.iconst 3, 1) := by decide +kernel
theorem dL_law__2340 : decode cL_law_ 2340 = .ok (.iadd, 1) := by decide +kernel
theorem dL_law__2341 : decode cL_law_ 2341 = .ok (.iaload, 1) := by decide +kernel
theorem dL_law__2342 : decode cL_law_ 2342 = .ok (.aload_n 3, 1) := by decide +kernel
theorem dL_law__2343 : decode cL_law_ 2343 = .ok (.invokestatic 244, 3) := by decide +kernel
theorem dL_law__2346 : decode cL_law_ 2346 = .ok (.istore 5, 2) := by decide +kernel
theorem dL_law__2348 : decode cL_law_ 2348 = .ok (.aload_n 2, 1) := by decide +kernel
theorem dL_law__2349 : decode cL_law_ 2349 = .ok (.aload_n 0, 1) := by decide +kernel
theorem dL_law__2350 : decode cL_law_ 2350 = .ok (.iload 4, 2) := by decide +kernel
theorem dL_law__2352 : decode cL_law_ 2352 = .ok (.iconst 1, 1) := by decide +kernel
theorem dL_law__2353 : decode cL_law_ 2353 = .ok (.iadd, 1) := by decide +kernel
theorem dL_law__2354 : decode cL_law_ 2354 = .ok (.iaload, 1) := by decide +kernel
theorem dL_law__2355 : decode cL_law_ 2355 = .ok (.aload_n 0, 1) := by decide +kernel
theorem dL_law__2356 : decode cL_law_ 2356 = .ok (.iload 4, 2) := by decide +kernel
theorem dL_law__2358 : decode cL_law_ 2358 = .ok (.iconst 2, 1) := by decide +kernel
theorem dL_law__2359 : decode cL_law_ 2359 = .ok (.iadd, 1) := by decide +kernel
theorem dL_law__2360 : decode cL_law_ 2360 = .ok (.iaload, 1) := by decide +kernel
theorem dL_law__2361 : decode cL_law_ 2361 = .ok (.aload_n 0, 1) := by decide +kernel
theorem dL_law__2362 : decode cL_law_ 2362 = .ok (.iload 4, 2) := by decide +kernel
theorem dL_law__2364 : decode cL_law_ 2364 = .ok (.iconst 3, 1) := by decide +kernel
theorem dL_law__2365 : decode cL_law_ 2365 = .ok (.iadd, 1) := by decide +kernel
theorem dL_law__2366 : decode cL_law_ 2366 = .ok (.iaload, 1) := by decide +kernel
theorem dL_law__2367 : decode cL_law_ 2367 = .ok (.invokevirtual 246, 3) := by decide +kernel
theorem dL_law__2370 : decode cL_law_ 2370 = .ok (.istore 6, 2) := by decide +kernel
theorem dL_law__2372 : decode cL_law_ 2372 = .ok (.aload_n 2, 1) := by decide +kernel
theorem dL_law__2373 : decode cL_law_ 2373 = .ok (.invokevirtual 140, 3) := by decide +kernel
theorem dL_law__2376 : decode cL_law_ 2376 = .ok (.iload 5, 2) := by decide +kernel
theorem dL_law__2378 : decode cL_law_ 2378 = .ok (.if_icmp .eq 5, 3) := by decide +kernel
theorem dL_law__2381 : decode cL_law_ 2381 = .ok (.iconst 0, 1) := by decide +kernel
theorem dL_law__2382 : decode cL_law_ 2382 = .ok (.ireturn, 1) := by decide +kernel
theorem dL_law__2383 : decode cL_law_ 2383 = .ok (.iload 5, 2) := by decide +kernel
theorem dL_law__2385 : decode cL_law_ 2385 = .ok (.ifCond .ne 15, 3) := by decide +kernel
theorem dL_law__2388 : decode cL_law_ 2388 = .ok (.aload_n 3, 1) := by decide +kernel
theorem dL_law__2389 : decode cL_law_ 2389 = .ok (.iconst 0, 1) := by decide +kernel
theorem dL_law__2390 : decode cL_law_ 2390 = .ok (.laload, 1) := by decide +kernel
theorem dL_law__2391 : decode cL_law_ 2391 = .ok (.iload 6, 2) := by decide +kernel
theorem dL_law__2393 : decode cL_law_ 2393 = .ok (.i2l, 1) := by decide +kernel
theorem dL_law__2394 : decode cL_law_ 2394 = .ok (.lcmp, 1) := by decide +kernel
theorem dL_law__2395 : decode cL_law_ 2395 = .ok (.ifCond .eq 5, 3) := by decide +kernel
theorem dL_law__2398 : decode cL_law_ 2398 = .ok (.iconst 0, 1) := by decide +kernel
theorem dL_law__2399 : decode cL_law_ 2399 = .ok (.ireturn, 1) := by decide +kernel
theorem dL_law__2400 : decode cL_law_ 2400 = .ok (.goto 523, 3) := by decide +kernel
theorem dL_law__2403 : decode cL_law_ 2403 = .ok (.aload_n 1, 1) := by decide +kernel
theorem dL_law__2404 : decode cL_law_ 2404 = .ok (.invokevirtual 247, 3) := by decide +kernel
theorem dL_law__2407 : decode cL_law_ 2407 = .ok (.aload_n 2, 1) := by decide +kernel
theorem dL_law__2408 : decode cL_law_ 2408 = .ok (.invokevirtual 250, 3) := by decide +kernel
theorem dL_law__2411 : decode cL_law_ 2411 = .ok (.goto 512, 3) := by decide +kernel
theorem dL_law__2414 : decode cL_law_ 2414 = .ok (.aload_n 1, 1) := by decide +kernel
theorem dL_law__2415 : decode cL_law_ 2415 = .ok (.aload_n 0, 1) := by decide +kernel
theorem dL_law__2416 : decode cL_law_ 2416 = .ok (.iload 4, 2) := by decide +kernel
theorem dL_law__2418 : decode cL_law_ 2418 = .ok (.iconst 1, 1) := by decide +kernel
theorem dL_law__2419 : decode cL_law_ 2419 = .ok (.iadd, 1) := by decide +kernel
theorem dL_law__2420 : decode cL_law_ 2420 = .ok (.iaload, 1) := by decide +kernel
theorem dL_law__2421 : decode cL_law_ 2421 = .ok (.aload_n 0, 1) := by decide +kernel
theorem dL_law__2422 : decode cL_law_ 2422 = .ok (.iload 4, 2) := by decide +kernel
theorem dL_law__2424 : decode cL_law_ 2424 = .ok (.iconst 2, 1) := by decide +kernel
theorem dL_law__2425 : decode cL_law_ 2425 = .ok (.iadd, 1) := by decide +kernel
theorem dL_law__2426 : decode cL_law_ 2426 = .ok (.iaload, 1) := by decide +kernel
theorem dL_law__2427 : decode cL_law_ 2427 = .ok (.aload_n 0, 1) := by decide +kernel
theorem dL_law__2428 : decode cL_law_ 2428 = .ok (.iload 4, 2) := by decide +kernel
theorem dL_law__2430 : decode cL_law_ 2430 = .ok (.iconst 3, 1) := by decide +kernel
theorem dL_law__2431 : decode cL_law_ 2431 = .ok (.iadd, 1) := by decide +kernel
theorem dL_law__2432 : decode cL_law_ 2432 = .ok (.iaload, 1) := by decide +kernel
theorem dL_law__2433 : decode cL_law_ 2433 = .ok (.aload_n 0, 1) := by decide +kernel
theorem dL_law__2434 : decode cL_law_ 2434 = .ok (.iload 4, 2) := by decide +kernel
theorem dL_law__2436 : decode cL_law_ 2436 = .ok (.iconst 4, 1) := by decide +kernel
theorem dL_law__2437 : decode cL_law_ 2437 = .ok (.iadd, 1) := by decide +kernel
theorem dL_law__2438 : decode cL_law_ 2438 = .ok (.iaload, 1) := by decide +kernel
theorem dL_law__2439 : decode cL_law_ 2439 = .ok (.aload_n 3, 1) := by decide +kernel
theorem dL_law__2440 : decode cL_law_ 2440 = .ok (.invokestatic 251, 3) := by decide +kernel
theorem dL_law__2443 : decode cL_law_ 2443 = .ok (.istore 5, 2) := by decide +kernel
theorem dL_law__2445 : decode cL_law_ 2445 = .ok (.aload_n 2, 1) := by decide +kernel
theorem dL_law__2446 : decode cL_law_ 2446 = .ok (.aload_n 0, 1) := by decide +kernel
theorem dL_law__2447 : decode cL_law_ 2447 = .ok (.iload 4, 2) := by decide +kernel
theorem dL_law__2449 : decode cL_law_ 2449 = .ok (.iconst 1, 1) := by decide +kernel
theorem dL_law__2450 : decode cL_law_ 2450 = .ok (.iadd, 1) := by decide +kernel
theorem dL_law__2451 : decode cL_law_ 2451 = .ok (.iaload, 1) := by decide +kernel
theorem dL_law__2452 : decode cL_law_ 2452 = .ok (.aload_n 0, 1) := by decide +kernel
theorem dL_law__2453 : decode cL_law_ 2453 = .ok (.iload 4, 2) := by decide +kernel
theorem dL_law__2455 : decode cL_law_ 2455 = .ok (.iconst 2, 1) := by decide +kernel
theorem dL_law__2456 : decode cL_law_ 2456 = .ok (.iadd, 1) := by decide +kernel
theorem dL_law__2457 : decode cL_law_ 2457 = .ok (.iaload, 1) := by decide +kernel
theorem dL_law__2458 : decode cL_law_ 2458 = .ok (.aload_n 0, 1) := by decide +kernel
theorem dL_law__2459 : decode cL_law_ 2459 = .ok (.iload 4, 2) := by decide +kernel
theorem dL_law__2461 : decode cL_law_ 2461 = .ok (.iconst 3, 1) := by decide +kernel
theorem dL_law__2462 : decode cL_law_ 2462 = .ok (.iadd, 1) := by decide +kernel
theorem dL_law__2463 : decode cL_law_ 2463 = .ok (.iaload, 1) := by decide +kernel
theorem dL_law__2464 : decode cL_law_ 2464 = .ok (.aload_n 0, 1) := by decide +kernel
theorem dL_law__2465 : decode cL_law_ 2465 = .ok (.iload 4, 2) := by decide +kernel
theorem dL_law__2467 : decode cL_law_ 2467 = .ok (.iconst 4, 1) := by decide +kernel
theorem dL_law__2468 : decode cL_law_ 2468 = .ok (.iadd, 1) := by decide +kernel
theorem dL_law__2469 : decode cL_law_ 2469 = .ok (.iaload, 1) := by decide +kernel
theorem dL_law__2470 : decode cL_law_ 2470 = .ok (.invokevirtual 253, 3) := by decide +kernel
theorem dL_law__2473 : decode cL_law_ 2473 = .ok (.istore 6, 2) := by decide +kernel
theorem dL_law__2475 : decode cL_law_ 2475 = .ok (.aload_n 2, 1) := by decide +kernel
theorem dL_law__2476 : decode cL_law_ 2476 = .ok (.invokevirtual 140, 3) := by decide +kernel
theorem dL_law__2479 : decode cL_law_ 2479 = .ok (.iload 5, 2) := by decide +kernel
theorem dL_law__2481 : decode cL_law_ 2481 = .ok (.if_icmp .eq 5, 3) := by decide +kernel
theorem dL_law__2484 : decode cL_law_ 2484 = .ok (.iconst 0, 1) := by decide +kernel
theorem dL_law__2485 : decode cL_law_ 2485 = .ok (.ireturn, 1) := by decide +kernel
theorem dL_law__2486 : decode cL_law_ 2486 = .ok (.iload 5, 2) := by decide +kernel
theorem dL_law__2488 : decode cL_law_ 2488 = .ok (.ifCond .ne 15, 3) := by decide +kernel
theorem dL_law__2491 : decode cL_law_ 2491 = .ok (.aload_n 3, 1) := by decide +kernel
theorem dL_law__2492 : decode cL_law_ 2492 = .ok (.iconst 0, 1) := by decide +kernel
theorem dL_law__2493 : decode cL_law_ 2493 = .ok (.laload, 1) := by decide +kernel
theorem dL_law__2494 : decode cL_law_ 2494 = .ok (.iload 6, 2) := by decide +kernel
theorem dL_law__2496 : decode cL_law_ 2496 = .ok (.i2l, 1) := by decide +kernel
theorem dL_law__2497 : decode cL_law_ 2497 = .ok (.lcmp, 1) := by decide +kernel
theorem dL_law__2498 : decode cL_law_ 2498 = .ok (.ifCond .eq 5, 3) := by decide +kernel
theorem dL_law__2501 : decode cL_law_ 2501 = .ok (.iconst 0, 1) := by decide +kernel
theorem dL_law__2502 : decode cL_law_ 2502 = .ok (.ireturn, 1) := by decide +kernel
theorem dL_law__2503 : decode cL_law_ 2503 = .ok (.goto 420, 3) := by decide +kernel
theorem dL_law__2506 : decode cL_law_ 2506 = .ok (.aload_n 1, 1) := by decide +kernel
theorem dL_law__2507 : decode cL_law_ 2507 = .ok (.aload_n 0, 1) := by decide +kernel
theorem dL_law__2508 : decode cL_law_ 2508 = .ok (.iload 4, 2) := by decide +kernel
theorem dL_law__2510 : decode cL_law_ 2510 = .ok (.iconst 1, 1) := by decide +kernel
theorem dL_law__2511 : decode cL_law_ 2511 = .ok (.iadd, 1) := by decide +kernel
theorem dL_law__2512 : decode cL_law_ 2512 = .ok (.iaload, 1) := by decide +kernel
theorem dL_law__2513 : decode cL_law_ 2513 = .ok (.aload_n 0, 1) := by decide +kernel
theorem dL_law__2514 : decode cL_law_ 2514 = .ok (.iload 4, 2) := by decide +kernel
theorem dL_law__2516 : decode cL_law_ 2516 = .ok (.iconst 2, 1) := by decide +kernel
theorem dL_law__2517 : decode cL_law_ 2517 = .ok (.iadd, 1) := by decide +kernel
theorem dL_law__2518 : decode cL_law_ 2518 = .ok (.iaload, 1) := by decide +kernel
theorem dL_law__2519 : decode cL_law_ 2519 = .ok (.aload_n 0, 1) := by decide +kernel
theorem dL_law__2520 : decode cL_law_ 2520 = .ok (.iload 4, 2) := by decide +kernel
theorem dL_law__2522 : decode cL_law_ 2522 = .ok (.iconst 3, 1) := by decide +kernel
theorem dL_law__2523 : decode cL_law_ 2523 = .ok (.iadd, 1) := by decide +kernel
theorem dL_law__2524 : decode cL_law_ 2524 = .ok (.iaload, 1) := by decide +kernel
theorem dL_law__2525 : decode cL_law_ 2525 = .ok (.aload_n 0, 1) := by decide +kernel
theorem dL_law__2526 : decode cL_law_ 2526 = .ok (.iload 4, 2) := by decide +kernel
theorem dL_law__2528 : decode cL_law_ 2528 = .ok (.iconst 4, 1) := by decide +kernel
theorem dL_law__2529 : decode cL_law_ 2529 = .ok (.iadd, 1) := by decide +kernel
theorem dL_law__2530 : decode cL_law_ 2530 = .ok (.iaload, 1) := by decide +kernel
theorem dL_law__2531 : decode cL_law_ 2531 = .ok (.aload_n 3, 1) := by decide +kernel
theorem dL_law__2532 : decode cL_law_ 2532 = .ok (.invokestatic 254, 3) := by decide +kernel
theorem dL_law__2535 : decode cL_law_ 2535 = .ok (.istore 5, 2) := by decide +kernel
theorem dL_law__2537 : decode cL_law_ 2537 = .ok (.aload_n 2, 1) := by decide +kernel
theorem dL_law__2538 : decode cL_law_ 2538 = .ok (.aload_n 0, 1) := by decide +kernel
theorem dL_law__2539 : decode cL_law_ 2539 = .ok (.iload 4, 2) := by decide +kernel
theorem dL_law__2541 : decode cL_law_ 2541 = .ok (.iconst 1, 1) := by decide +kernel
theorem dL_law__2542 : decode cL_law_ 2542 = .ok (.iadd, 1) := by decide +kernel
theorem dL_law__2543 : decode cL_law_ 2543 = .ok (.iaload, 1) := by decide +kernel
theorem dL_law__2544 : decode cL_law_ 2544 = .ok (.aload_n 0, 1) := by decide +kernel
theorem dL_law__2545 : decode cL_law_ 2545 = .ok (.iload 4, 2) := by decide +kernel
theorem dL_law__2547 : decode cL_law_ 2547 = .ok (.iconst 2, 1) := by decide +kernel
theorem dL_law__2548 : decode cL_law_ 2548 = .ok (.iadd, 1) := by decide +kernel
theorem dL_law__2549 : decode cL_law_ 2549 = .ok (.iaload, 1) := by decide +kernel
theorem dL_law__2550 : decode cL_law_ 2550 = .ok (.aload_n 0, 1) := by decide +kernel
theorem dL_law__2551 : decode cL_law_ 2551 = .ok (.iload 4, 2) := by decide +kernel
theorem dL_law__2553 : decode cL_law_ 2553 = .ok (.iconst 3, 1) := by decide +kernel
theorem dL_law__2554 : decode cL_law_ 2554 = .ok (.iadd, 1) := by decide +kernel
theorem dL_law__2555 : decode cL_law_ 2555 = .ok (.iaload, 1) := by decide +kernel
theorem dL_law__2556 : decode cL_law_ 2556 = .ok (.aload_n 0, 1) := by decide +kernel
theorem dL_law__2557 : decode cL_law_ 2557 = .ok (.iload 4, 2) := by decide +kernel
theorem dL_law__2559 : decode cL_law_ 2559 = .ok (.iconst 4, 1) := by decide +kernel
theorem dL_law__2560 : decode cL_law_ 2560 = .ok (.iadd, 1) := by decide +kernel
theorem dL_law__2561 : decode cL_law_ 2561 = .ok (.iaload, 1) := by decide +kernel
theorem dL_law__2562 : decode cL_law_ 2562 = .ok (.invokevirtual 256, 3) := by decide +kernel
theorem dL_law__2565 : decode cL_law_ 2565 = .ok (.istore 6, 2) := by decide +kernel
theorem dL_law__2567 : decode cL_law_ 2567 = .ok (.aload_n 2, 1) := by decide +kernel
theorem dL_law__2568 : decode cL_law_ 2568 = .ok (.invokevirtual 140, 3) := by decide +kernel
theorem dL_law__2571 : decode cL_law_ 2571 = .ok (.iload 5, 2) := by decide +kernel
theorem dL_law__2573 : decode cL_law_ 2573 = .ok (.if_icmp .eq 5, 3) := by decide +kernel
theorem dL_law__2576 : decode cL_law_ 2576 = .ok (.iconst 0, 1) := by decide +kernel
theorem dL_law__2577 : decode cL_law_ 2577 = .ok (.ireturn, 1) := by decide +kernel
theorem dL_law__2578 : decode cL_law_ 2578 = .ok (.iload 5, 2) := by decide +kernel
theorem dL_law__2580 : decode cL_law_ 2580 = .ok (.ifCond .ne 15, 3) := by decide +kernel
theorem dL_law__2583 : decode cL_law_ 2583 = .ok (.aload_n 3, 1) := by decide +kernel
theorem dL_law__2584 : decode cL_law_ 2584 = .ok (.iconst 0, 1) := by decide +kernel
theorem dL_law__2585 : decode cL_law_ 2585 = .ok (.laload, 1) := by decide +kernel
theorem dL_law__2586 : decode cL_law_ 2586 = .ok (.iload 6, 2) := by decide +kernel
theorem dL_law__2588 : decode cL_law_ 2588 = .ok (.i2l, 1) := by decide +kernel
theorem dL_law__2589 : decode cL_law_ 2589 = .ok (.lcmp, 1) := by decide +kernel
theorem dL_law__2590 : decode cL_law_ 2590 = .ok (.ifCond .eq 5, 3) := by decide +kernel
theorem dL_law__2593 : decode cL_law_ 2593 = .ok (.iconst 0, 1) := by decide +kernel
theorem dL_law__2594 : decode cL_law_ 2594 = .ok (.ireturn, 1) := by decide +kernel
theorem dL_law__2595 : decode cL_law_ 2595 = .ok (.goto 328, 3) := by decide +kernel
theorem dL_law__2598 : decode cL_law_ 2598 = .ok (.aload_n 1, 1) := by decide +kernel
theorem dL_law__2599 : decode cL_law_ 2599 = .ok (.aload_n 0, 1) := by decide +kernel
theorem dL_law__2600 : decode cL_law_ 2600 = .ok (.iload 4, 2) := by decide +kernel
theorem dL_law__2602 : decode cL_law_ 2602 = .ok (.iconst 1, 1) := by decide +kernel
theorem dL_law__2603 : decode cL_law_ 2603 = .ok (.iadd, 1) := by decide +kernel
theorem dL_law__2604 : decode cL_law_ 2604 = .ok (.iaload, 1) := by decide +kernel
theorem dL_law__2605 : decode cL_law_ 2605 = .ok (.aload_n 3, 1) := by decide +kernel
theorem dL_law__2606 : decode cL_law_ 2606 = .ok (.invokestatic 257, 3) := by decide +kernel
theorem dL_law__2609 : decode cL_law_ 2609 = .ok (.istore 5, 2) := by decide +kernel
theorem dL_law__2611 : decode cL_law_ 2611 = .ok (.aload_n 2, 1) := by decide +kernel
theorem dL_law__2612 : decode cL_law_ 2612 = .ok (.aload_n 0, 1) := by decide +kernel
theorem dL_law__2613 : decode cL_law_ 2613 = .ok (.iload 4, 2) := by decide +kernel
theorem dL_law__2615 : decode cL_law_ 2615 = .ok (.iconst 1, 1) := by decide +kernel
theorem dL_law__2616 : decode cL_law_ 2616 = .ok (.iadd, 1) := by decide +kernel
theorem dL_law__2617 : decode cL_law_ 2617 = .ok (.iaload, 1) := by decide +kernel
theorem dL_law__2618 : decode cL_law_ 2618 = .ok (.invokevirtual 259, 3) := by decide +kernel
theorem dL_law__2621 : decode cL_law_ 2621 = .ok (.istore 6, 2) := by decide +kernel
theorem dL_law__2623 : decode cL_law_ 2623 = .ok (.aload_n 2, 1) := by decide +kernel
theorem dL_law__2624 : decode cL_law_ 2624 = .ok (.invokevirtual 140, 3) := by decide +kernel
theorem dL_law__2627 : decode cL_law_ 2627 = .ok (.iload 5, 2) := by decide +kernel
theorem dL_law__2629 : decode cL_law_ 2629 = .ok (.if_icmp .eq 5, 3) := by decide +kernel
theorem dL_law__2632 : decode cL_law_ 2632 = .ok (.iconst 0, 1) := by decide +kernel
theorem dL_law__2633 : decode cL_law_ 2633 = .ok (.ireturn, 1) := by decide +kernel
theorem dL_law__2634 : decode cL_law_ 2634 = .ok (.iload 5, 2) := by decide +kernel
theorem dL_law__2636 : decode cL_law_ 2636 = .ok (.ifCond .ne 15, 3) := by decide +kernel
theorem dL_law__2639 : decode cL_law_ 2639 = .ok (.aload_n 3, 1) := by decide +kernel
theorem dL_law__2640 : decode cL_law_ 2640 = .ok (.iconst 0, 1) := by decide +kernel
theorem dL_law__2641 : decode cL_law_ 2641 = .ok (.laload, 1) := by decide +kernel
theorem dL_law__2642 : decode cL_law_ 2642 = .ok (.iload 6, 2) := by decide +kernel
theorem dL_law__2644 : decode cL_law_ 2644 = .ok (.i2l, 1) := by decide +kernel
theorem dL_law__2645 : decode cL_law_ 2645 = .ok (.lcmp, 1) := by decide +kernel
theorem dL_law__2646 : decode cL_law_ 2646 = .ok (.ifCond .eq 5, 3) := by decide +kernel
theorem dL_law__2649 : decode cL_law_ 2649 = .ok (.iconst 0, 1) := by decide +kernel
theorem dL_law__2650 : decode cL_law_ 2650 = .ok (.ireturn, 1) := by decide +kernel
theorem dL_law__2651 : decode cL_law_ 2651 = .ok (.goto 272, 3) := by decide +kernel
theorem dL_law__2654 : decode cL_law_ 2654 = .ok (.aload_n 1, 1) := by decide +kernel
theorem dL_law__2655 : decode cL_law_ 2655 = .ok (.aload_n 0, 1) := by decide +kernel
theorem dL_law__2656 : decode cL_law_ 2656 = .ok (.iload 4, 2) := by decide +kernel
theorem dL_law__2658 : decode cL_law_ 2658 = .ok (.iconst 1, 1) := by decide +kernel
theorem dL_law__2659 : decode cL_law_ 2659 = .ok (.iadd, 1) := by decide +kernel
theorem dL_law__2660 : decode cL_law_ 2660 = .ok (.iaload, 1) := by decide +kernel
theorem dL_law__2661 : decode cL_law_ 2661 = .ok (.aload_n 0, 1) := by decide +kernel
theorem dL_law__2662 : decode cL_law_ 2662 = .ok (.iload 4, 2) := by decide +kernel
theorem dL_law__2664 : decode cL_law_ 2664 = .ok (.iconst 2, 1) := by decide +kernel
theorem dL_law__2665 : decode cL_law_ 2665 = .ok (.iadd, 1) := by decide +kernel
theorem dL_law__2666 : decode cL_law_ 2666 = .ok (.iaload, 1) := by decide +kernel
theorem dL_law__2667 : decode cL_law_ 2667 = .ok (.aload_n 0, 1) := by decide +kernel
theorem dL_law__2668 : decode cL_law_ 2668 = .ok (.iload 4, 2) := by decide +kernel
theorem dL_law__2670 : decode cL_law_ 2670 = .ok (.iconst 3, 1) := by decide +kernel
theorem dL_law__2671 : decode cL_law_ 2671 = .ok (.iadd, 1) := by decide +kernel
theorem dL_law__2672 : decode cL_law_ 2672 = .ok (.iaload, 1) := by decide +kernel
theorem dL_law__2673 : decode cL_law_ 2673 = .ok (.invokestatic 260, 3) := by decide +kernel
theorem dL_law__2676 : decode cL_law_ 2676 = .ok (.istore 5, 2) := by decide +kernel
theorem dL_law__2678 : decode cL_law_ 2678 = .ok (.aload_n 2, 1) := by decide +kernel
theorem dL_law__2679 : decode cL_law_ 2679 = .ok (.aload_n 0, 1) := by decide +kernel
theorem dL_law__2680 : decode cL_law_ 2680 = .ok (.iload 4, 2) := by decide +kernel
theorem dL_law__2682 : decode cL_law_ 2682 = .ok (.iconst 1, 1) := by decide +kernel
theorem dL_law__2683 : decode cL_law_ 2683 = .ok (.iadd, 1) := by decide +kernel
theorem dL_law__2684 : decode cL_law_ 2684 = .ok (.iaload, 1) := by decide +kernel
theorem dL_law__2685 : decode cL_law_ 2685 = .ok (.aload_n 0, 1) := by decide +kernel
theorem dL_law__2686 : decode cL_law_ 2686 = .ok (.iload 4, 2) := by decide +kernel
theorem dL_law__2688 : decode cL_law_ 2688 = .ok (.iconst 2, 1) := by decide +kernel
theorem dL_law__2689 : decode cL_law_ 2689 = .ok (.iadd, 1) := by decide +kernel
theorem dL_law__2690 : decode cL_law_ 2690 = .ok (.iaload, 1) := by decide +kernel
theorem dL_law__2691 : decode cL_law_ 2691 = .ok (.aload_n 0, 1) := by decide +kernel
theorem dL_law__2692 : decode cL_law_ 2692 = .ok (.iload 4, 2) := by decide +kernel
theorem dL_law__2694 : decode cL_law_ 2694 = .ok (.iconst 3, 1) := by decide +kernel
theorem dL_law__2695 : decode cL_law_ 2695 = .ok (.iadd, 1) := by decide +kernel
theorem dL_law__2696 : decode cL_law_ 2696 = .ok (.iaload, 1) := by decide +kernel
theorem dL_law__2697 : decode cL_law_ 2697 = .ok (.invokevirtual 263, 3) := by decide +kernel
theorem dL_law__2700 : decode cL_law_ 2700 = .ok (.aload_n 2, 1) := by decide +kernel
theorem dL_law__2701 : decode cL_law_ 2701 = .ok (.invokevirtual 140, 3) := by decide +kernel
theorem dL_law__2704 : decode cL_law_ 2704 = .ok (.iload 5, 2) := by decide +kernel
theorem dL_law__2706 : decode cL_law_ 2706 = .ok (.if_icmp .eq 5, 3) := by decide +kernel
theorem dL_law__2709 : decode cL_law_ 2709 = .ok (.iconst 0, 1) := by decide +kernel
theorem dL_law__2710 : decode cL_law_ 2710 = .ok (.ireturn, 1) := by decide +kernel
theorem dL_law__2711 : decode cL_law_ 2711 = .ok (.goto 212, 3) := by decide +kernel
theorem dL_law__2714 : decode cL_law_ 2714 = .ok (.aload_n 1, 1) := by decide +kernel
theorem dL_law__2715 : decode cL_law_ 2715 = .ok (.aload_n 0, 1) := by decide +kernel
theorem dL_law__2716 : decode cL_law_ 2716 = .ok (.iload 4, 2) := by decide +kernel
theorem dL_law__2718 : decode cL_law_ 2718 = .ok (.iconst 1, 1) := by decide +kernel
theorem dL_law__2719 : decode cL_law_ 2719 = .ok (.iadd, 1) := by decide +kernel
theorem dL_law__2720 : decode cL_law_ 2720 = .ok (.iaload, 1) := by decide +kernel
theorem dL_law__2721 : decode cL_law_ 2721 = .ok (.aload_n 0, 1) := by decide +kernel
theorem dL_law__2722 : decode cL_law_ 2722 = .ok (.iload 4, 2) := by decide +kernel
theorem dL_law__2724 : decode cL_law_ 2724 = .ok (.iconst 2, 1) := by decide +kernel
theorem dL_law__2725 : decode cL_law_ 2725 = .ok (.iadd, 1) := by decide +kernel
theorem dL_law__2726 : decode cL_law_ 2726 = .ok (.iaload, 1) := by decide +kernel
theorem dL_law__2727 : decode cL_law_ 2727 = .ok (.aload_n 0, 1) := by decide +kernel
theorem dL_law__2728 : decode cL_law_ 2728 = .ok (.iload 4, 2) := by decide +kernel
theorem dL_law__2730 : decode cL_law_ 2730 = .ok (.iconst 3, 1) := by decide +kernel
theorem dL_law__2731 : decode cL_law_ 2731 = .ok (.iadd, 1) := by decide +kernel
theorem dL_law__2732 : decode cL_law_ 2732 = .ok (.iaload, 1) := by decide +kernel
theorem dL_law__2733 : decode cL_law_ 2733 = .ok (.i2l, 1) := by decide +kernel
theorem dL_law__2734 : decode cL_law_ 2734 = .ok (.bipush 32, 2) := by decide +kernel
theorem dL_law__2736 : decode cL_law_ 2736 = .ok (.lshl, 1) := by decide +kernel
theorem dL_law__2737 : decode cL_law_ 2737 = .ok (.aload_n 0, 1) := by decide +kernel
theorem dL_law__2738 : decode cL_law_ 2738 = .ok (.iload 4, 2) := by decide +kernel
theorem dL_law__2740 : decode cL_law_ 2740 = .ok (.iconst 4, 1) := by decide +kernel
theorem dL_law__2741 : decode cL_law_ 2741 = .ok (.iadd, 1) := by decide +kernel
theorem dL_law__2742 : decode cL_law_ 2742 = .ok (.iaload, 1) := by decide +kernel
theorem dL_law__2743 : decode cL_law_ 2743 = .ok (.i2l, 1) := by decide +kernel
theorem dL_law__2744 : decode cL_law_ 2744 = .ok (.ldc2_w 264, 3) := by decide +kernel
theorem dL_law__2747 : decode cL_law_ 2747 = .ok (.land, 1) := by decide +kernel
theorem dL_law__2748 : decode cL_law_ 2748 = .ok (.lor, 1) := by decide +kernel
theorem dL_law__2749 : decode cL_law_ 2749 = .ok (.aload_n 3, 1) := by decide +kernel
theorem dL_law__2750 : decode cL_law_ 2750 = .ok (.invokestatic 266, 3) := by decide +kernel
theorem dL_law__2753 : decode cL_law_ 2753 = .ok (.istore 5, 2) := by decide +kernel
theorem dL_law__2755 : decode cL_law_ 2755 = .ok (.aload_n 2, 1) := by decide +kernel
theorem dL_law__2756 : decode cL_law_ 2756 = .ok (.aload_n 0, 1) := by decide +kernel
theorem dL_law__2757 : decode cL_law_ 2757 = .ok (.iload 4, 2) := by decide +kernel
theorem dL_law__2759 : decode cL_law_ 2759 = .ok (.iconst 1, 1) := by decide +kernel
theorem dL_law__2760 : decode cL_law_ 2760 = .ok (.iadd, 1) := by decide +kernel
theorem dL_law__2761 : decode cL_law_ 2761 = .ok (.iaload, 1) := by decide +kernel
theorem dL_law__2762 : decode cL_law_ 2762 = .ok (.aload_n 0, 1) := by decide +kernel
theorem dL_law__2763 : decode cL_law_ 2763 = .ok (.iload 4, 2) := by decide +kernel
theorem dL_law__2765 : decode cL_law_ 2765 = .ok (.iconst 2, 1) := by decide +kernel
theorem dL_law__2766 : decode cL_law_ 2766 = .ok (.iadd, 1) := by decide +kernel
theorem dL_law__2767 : decode cL_law_ 2767 = .ok (.iaload, 1) := by decide +kernel
theorem dL_law__2768 : decode cL_law_ 2768 = .ok (.aload_n 0, 1) := by decide +kernel
theorem dL_law__2769 : decode cL_law_ 2769 = .ok (.iload 4, 2) := by decide +kernel
theorem dL_law__2771 : decode cL_law_ 2771 = .ok (.iconst 3, 1) := by decide +kernel
theorem dL_law__2772 : decode cL_law_ 2772 = .ok (.iadd, 1) := by decide +kernel
theorem dL_law__2773 : decode cL_law_ 2773 = .ok (.iaload, 1) := by decide +kernel
theorem dL_law__2774 : decode cL_law_ 2774 = .ok (.i2l, 1) := by decide +kernel
theorem dL_law__2775 : decode cL_law_ 2775 = .ok (.bipush 32, 2) := by decide +kernel
theorem dL_law__2777 : decode cL_law_ 2777 = .ok (.lshl, 1) := by decide +kernel
theorem dL_law__2778 : decode cL_law_ 2778 = .ok (.aload_n 0, 1) := by decide +kernel
theorem dL_law__2779 : decode cL_law_ 2779 = .ok (.iload 4, 2) := by decide +kernel
theorem dL_law__2781 : decode cL_law_ 2781 = .ok (.iconst 4, 1) := by decide +kernel
theorem dL_law__2782 : decode cL_law_ 2782 = .ok (.iadd, 1) := by decide +kernel
theorem dL_law__2783 : decode cL_law_ 2783 = .ok (.iaload, 1) := by decide +kernel
theorem dL_law__2784 : decode cL_law_ 2784 = .ok (.i2l, 1) := by decide +kernel
theorem dL_law__2785 : decode cL_law_ 2785 = .ok (.ldc2_w 264, 3) := by decide +kernel
theorem dL_law__2788 : decode cL_law_ 2788 = .ok (.land, 1) := by decide +kernel
theorem dL_law__2789 : decode cL_law_ 2789 = .ok (.lor, 1) := by decide +kernel
theorem dL_law__2790 : decode cL_law_ 2790 = .ok (.invokevirtual 269, 3) := by decide +kernel
theorem dL_law__2793 : decode cL_law_ 2793 = .ok (.lstore 6, 2) := by decide +kernel
theorem dL_law__2795 : decode cL_law_ 2795 = .ok (.aload_n 2, 1) := by decide +kernel
theorem dL_law__2796 : decode cL_law_ 2796 = .ok (.invokevirtual 140, 3) := by decide +kernel
theorem dL_law__2799 : decode cL_law_ 2799 = .ok (.iload 5, 2) := by decide +kernel
theorem dL_law__2801 : decode cL_law_ 2801 = .ok (.if_icmp .eq 5, 3) := by decide +kernel
theorem dL_law__2804 : decode cL_law_ 2804 = .ok (.iconst 0, 1) := by decide +kernel
theorem dL_law__2805 : decode cL_law_ 2805 = .ok (.ireturn, 1) := by decide +kernel
theorem dL_law__2806 : decode cL_law_ 2806 = .ok (.iload 5, 2) := by decide +kernel
theorem dL_law__2808 : decode cL_law_ 2808 = .ok (.ifCond .ne 14, 3) := by decide +kernel
theorem dL_law__2811 : decode cL_law_ 2811 = .ok (.aload_n 3, 1) := by decide +kernel
theorem dL_law__2812 : decode cL_law_ 2812 = .ok (.iconst 0, 1) := by decide +kernel
theorem dL_law__2813 : decode cL_law_ 2813 = .ok (.laload, 1) := by decide +kernel
theorem dL_law__2814 : decode cL_law_ 2814 = .ok (.lload 6, 2) := by decide +kernel
theorem dL_law__2816 : decode cL_law_ 2816 = .ok (.lcmp, 1) := by decide +kernel
theorem dL_law__2817 : decode cL_law_ 2817 = .ok (.ifCond .eq 5, 3) := by decide +kernel
theorem dL_law__2820 : decode cL_law_ 2820 = .ok (.iconst 0, 1) := by decide +kernel
theorem dL_law__2821 : decode cL_law_ 2821 = .ok (.ireturn, 1) := by decide +kernel
theorem dL_law__2822 : decode cL_law_ 2822 = .ok (.goto 101, 3) := by decide +kernel
theorem dL_law__2825 : decode cL_law_ 2825 = .ok (.aload_n 1, 1) := by decide +kernel
theorem dL_law__2826 : decode cL_law_ 2826 = .ok (.aload_n 0, 1) := by decide +kernel
theorem dL_law__2827 : decode cL_law_ 2827 = .ok (.iload 4, 2) := by decide +kernel
theorem dL_law__2829 : decode cL_law_ 2829 = .ok (.iconst 1, 1) := by decide +kernel
theorem dL_law__2830 : decode cL_law_ 2830 = .ok (.iadd, 1) := by decide +kernel
theorem dL_law__2831 : decode cL_law_ 2831 = .ok (.iaload, 1) := by decide +kernel
theorem dL_law__2832 : decode cL_law_ 2832 = .ok (.invokestatic 270, 3) := by decide +kernel
theorem dL_law__2835 : decode cL_law_ 2835 = .ok (.istore 5, 2) := by decide +kernel
theorem dL_law__2837 : decode cL_law_ 2837 = .ok (.aload_n 2, 1) := by decide +kernel
theorem dL_law__2838 : decode cL_law_ 2838 = .ok (.aload_n 0, 1) := by decide +kernel
theorem dL_law__2839 : decode cL_law_ 2839 = .ok (.iload 4, 2) := by decide +kernel
theorem dL_law__2841 : decode cL_law_ 2841 = .ok (.iconst 1, 1) := by decide +kernel
theorem dL_law__2842 : decode cL_law_ 2842 = .ok (.iadd, 1) := by decide +kernel
theorem dL_law__2843 : decode cL_law_ 2843 = .ok (.iaload, 1) := by decide +kernel
theorem dL_law__2844 : decode cL_law_ 2844 = .ok (.invokevirtual 273, 3) := by decide +kernel
theorem dL_law__2847 : decode cL_law_ 2847 = .ok (.aload_n 2, 1) := by decide +kernel
theorem dL_law__2848 : decode cL_law_ 2848 = .ok (.invokevirtual 140, 3) := by decide +kernel
theorem dL_law__2851 : decode cL_law_ 2851 = .ok (.iload 5, 2) := by decide +kernel
theorem dL_law__2853 : decode cL_law_ 2853 = .ok (.if_icmp .eq 5, 3) := by decide +kernel
theorem dL_law__2856 : decode cL_law_ 2856 = .ok (.iconst 0, 1) := by decide +kernel
theorem dL_law__2857 : decode cL_law_ 2857 = .ok (.ireturn, 1) := by decide +kernel
theorem dL_law__2858 : decode cL_law_ 2858 = .ok (.goto 65, 3) := by decide +kernel
theorem dL_law__2861 : decode cL_law_ 2861 = .ok (.aload_n 1, 1) := by decide +kernel
theorem dL_law__2862 : decode cL_law_ 2862 = .ok (.aload_n 0, 1) := by decide +kernel
theorem dL_law__2863 : decode cL_law_ 2863 = .ok (.iload 4, 2) := by decide +kernel
theorem dL_law__2865 : decode cL_law_ 2865 = .ok (.iconst 1, 1) := by decide +kernel
theorem dL_law__2866 : decode cL_law_ 2866 = .ok (.iadd, 1) := by decide +kernel
theorem dL_law__2867 : decode cL_law_ 2867 = .ok (.iaload, 1) := by decide +kernel
theorem dL_law__2868 : decode cL_law_ 2868 = .ok (.invokestatic 274, 3) := by decide +kernel
theorem dL_law__2871 : decode cL_law_ 2871 = .ok (.istore 5, 2) := by decide +kernel
theorem dL_law__2873 : decode cL_law_ 2873 = .ok (.aload_n 2, 1) := by decide +kernel
theorem dL_law__2874 : decode cL_law_ 2874 = .ok (.aload_n 0, 1) := by decide +kernel
theorem dL_law__2875 : decode cL_law_ 2875 = .ok (.iload 4, 2) := by decide +kernel
theorem dL_law__2877 : decode cL_law_ 2877 = .ok (.iconst 1, 1) := by decide +kernel
theorem dL_law__2878 : decode cL_law_ 2878 = .ok (.iadd, 1) := by decide +kernel
theorem dL_law__2879 : decode cL_law_ 2879 = .ok (.iaload, 1) := by decide +kernel
theorem dL_law__2880 : decode cL_law_ 2880 = .ok (.invokevirtual 276, 3) := by decide +kernel
theorem dL_law__2883 : decode cL_law_ 2883 = .ok (.aload_n 2, 1) := by decide +kernel
theorem dL_law__2884 : decode cL_law_ 2884 = .ok (.invokevirtual 140, 3) := by decide +kernel
theorem dL_law__2887 : decode cL_law_ 2887 = .ok (.iload 5, 2) := by decide +kernel
theorem dL_law__2889 : decode cL_law_ 2889 = .ok (.if_icmp .eq 5, 3) := by decide +kernel
theorem dL_law__2892 : decode cL_law_ 2892 = .ok (.iconst 0, 1) := by decide +kernel
theorem dL_law__2893 : decode cL_law_ 2893 = .ok (.ireturn, 1) := by decide +kernel
theorem dL_law__2894 : decode cL_law_ 2894 = .ok (.goto 29, 3) := by decide +kernel
theorem dL_law__2897 : decode cL_law_ 2897 = .ok (.aload_n 1, 1) := by decide +kernel
theorem dL_law__2898 : decode cL_law_ 2898 = .ok (.aload_n 0, 1) := by decide +kernel
theorem dL_law__2899 : decode cL_law_ 2899 = .ok (.iload 4, 2) := by decide +kernel
theorem dL_law__2901 : decode cL_law_ 2901 = .ok (.iconst 1, 1) := by decide +kernel
theorem dL_law__2902 : decode cL_law_ 2902 = .ok (.iadd, 1) := by decide +kernel
theorem dL_law__2903 : decode cL_law_ 2903 = .ok (.iaload, 1) := by decide +kernel
theorem dL_law__2904 : decode cL_law_ 2904 = .ok (.invokevirtual 277, 3) := by decide +kernel
theorem dL_law__2907 : decode cL_law_ 2907 = .ok (.aload_n 2, 1) := by decide +kernel
theorem dL_law__2908 : decode cL_law_ 2908 = .ok (.aload_n 0, 1) := by decide +kernel
theorem dL_law__2909 : decode cL_law_ 2909 = .ok (.iload 4, 2) := by decide +kernel
theorem dL_law__2911 : decode cL_law_ 2911 = .ok (.iconst 1, 1) := by decide +kernel
theorem dL_law__2912 : decode cL_law_ 2912 = .ok (.iadd, 1) := by decide +kernel
theorem dL_law__2913 : decode cL_law_ 2913 = .ok (.iaload, 1) := by decide +kernel
theorem dL_law__2914 : decode cL_law_ 2914 = .ok (.invokevirtual 281, 3) := by decide +kernel
theorem dL_law__2917 : decode cL_law_ 2917 = .ok (.lcmp, 1) := by decide +kernel
theorem dL_law__2918 : decode cL_law_ 2918 = .ok (.ifCond .eq 5, 3) := by decide +kernel
theorem dL_law__2921 : decode cL_law_ 2921 = .ok (.iconst 0, 1) := by decide +kernel
theorem dL_law__2922 : decode cL_law_ 2922 = .ok (.ireturn, 1) := by decide +kernel
theorem dL_law__2923 : decode cL_law_ 2923 = .ok (.iinc 4 6, 3) := by decide +kernel
theorem dL_law__2926 : decode cL_law_ 2926 = .ok (.goto (-2903), 3) := by decide +kernel
theorem dL_law__2929 : decode cL_law_ 2929 = .ok (.iconst 1, 1) := by decide +kernel
theorem dL_law__2930 : decode cL_law_ 2930 = .ok (.ireturn, 1) := by decide +kernel
