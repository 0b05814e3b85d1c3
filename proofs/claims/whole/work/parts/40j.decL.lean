theorem dL_law_3174 : decode cL_law 3174 = .ok (.ifCond .eq 11, 3) := by decide +kernel
theorem dL_law_3177 : decode cL_law 3177 = .ok (.dload 7, 2) := by decide +kernel
theorem dL_law_3179 : decode cL_law 3179 = .ok (.dload 7, 2) := by decide +kernel
theorem dL_law_3181 : decode cL_law 3181 = .ok (.dcmp .l, 1) := by decide +kernel
theorem dL_law_3182 : decode cL_law 3182 = .ok (.ifCond .ne 5, 3) := by decide +kernel
theorem dL_law_3185 : decode cL_law 3185 = .ok (.iconst 0, 1) := by decide +kernel
theorem dL_law_3186 : decode cL_law 3186 = .ok (.ireturn, 1) := by decide +kernel
theorem dL_law_3187 : decode cL_law 3187 = .ok (.goto 541, 3) := by decide +kernel
theorem dL_law_3190 : decode cL_law 3190 = .ok (.aload_n 1, 1) := by decide +kernel
theorem dL_law_3191 : decode cL_law 3191 = .ok (.aload 4, 2) := by decide +kernel
theorem dL_law_3193 : decode cL_law 3193 = .ok (.invokestatic 355, 3) := by decide +kernel
theorem dL_law_3196 : decode cL_law 3196 = .ok (.istore 6, 2) := by decide +kernel
theorem dL_law_3198 : decode cL_law 3198 = .ok (.aload_n 2, 1) := by decide +kernel
theorem dL_law_3199 : decode cL_law 3199 = .ok (.invokevirtual 357, 3) := by decide +kernel
theorem dL_law_3202 : decode cL_law 3202 = .ok (.fstore 7, 2) := by decide +kernel
theorem dL_law_3204 : decode cL_law 3204 = .ok (.aload_n 2, 1) := by decide +kernel
theorem dL_law_3205 : decode cL_law 3205 = .ok (.invokevirtual 192, 3) := by decide +kernel
theorem dL_law_3208 : decode cL_law 3208 = .ok (.iload 6, 2) := by decide +kernel
theorem dL_law_3210 : decode cL_law 3210 = .ok (.if_icmp .eq 5, 3) := by decide +kernel
theorem dL_law_3213 : decode cL_law 3213 = .ok (.iconst 0, 1) := by decide +kernel
theorem dL_law_3214 : decode cL_law 3214 = .ok (.ireturn, 1) := by decide +kernel
theorem dL_law_3215 : decode cL_law 3215 = .ok (.iload 6, 2) := by decide +kernel
theorem dL_law_3217 : decode cL_law 3217 = .ok (.ifCond .ne 36, 3) := by decide +kernel
theorem dL_law_3220 : decode cL_law 3220 = .ok (.aload 4, 2) := by decide +kernel
theorem dL_law_3222 : decode cL_law 3222 = .ok (.iconst 0, 1) := by decide +kernel
theorem dL_law_3223 : decode cL_law 3223 = .ok (.daload, 1) := by decide +kernel
theorem dL_law_3224 : decode cL_law 3224 = .ok (.fload 7, 2) := by decide +kernel
theorem dL_law_3226 : decode cL_law 3226 = .ok (.f2d, 1) := by decide +kernel
theorem dL_law_3227 : decode cL_law 3227 = .ok (.dcmp .l, 1) := by decide +kernel
theorem dL_law_3228 : decode cL_law 3228 = .ok (.ifCond .eq 25, 3) := by decide +kernel
theorem dL_law_3231 : decode cL_law 3231 = .ok (.aload 4, 2) := by decide +kernel
theorem dL_law_3233 : decode cL_law 3233 = .ok (.iconst 0, 1) := by decide +kernel
theorem dL_law_3234 : decode cL_law 3234 = .ok (.daload, 1) := by decide +kernel
theorem dL_law_3235 : decode cL_law 3235 = .ok (.aload 4, 2) := by decide +kernel
theorem dL_law_3237 : decode cL_law 3237 = .ok (.iconst 0, 1) := by decide +kernel
theorem dL_law_3238 : decode cL_law 3238 = .ok (.daload, 1) := by decide +kernel
theorem dL_law_3239 : decode cL_law 3239 = .ok (.dcmp .l, 1) := by decide +kernel
theorem dL_law_3240 : decode cL_law 3240 = .ok (.ifCond .eq 11, 3) := by decide +kernel
theorem dL_law_3243 : decode cL_law 3243 = .ok (.fload 7, 2) := by decide +kernel
theorem dL_law_3245 : decode cL_law 3245 = .ok (.fload 7, 2) := by decide +kernel
theorem dL_law_3247 : decode cL_law 3247 = .ok (.fcmp .l, 1) := by decide +kernel
theorem dL_law_3248 : decode cL_law 3248 = .ok (.ifCond .ne 5, 3) := by decide +kernel
theorem dL_law_3251 : decode cL_law 3251 = .ok (.iconst 0, 1) := by decide +kernel
theorem dL_law_3252 : decode cL_law 3252 = .ok (.ireturn, 1) := by decide +kernel
theorem dL_law_3253 : decode cL_law 3253 = .ok (.goto 475, 3) := by decide +kernel
theorem dL_law_3256 : decode cL_law 3256 = .ok (.aload_n 1, 1) := by decide +kernel
theorem dL_law_3257 : decode cL_law 3257 = .ok (.invokevirtual 358, 3) := by decide +kernel
theorem dL_law_3260 : decode cL_law 3260 = .ok (.aload_n 2, 1) := by decide +kernel
theorem dL_law_3261 : decode cL_law 3261 = .ok (.invokevirtual 361, 3) := by decide +kernel
theorem dL_law_3264 : decode cL_law 3264 = .ok (.if_icmp .eq 464, 3) := by decide +kernel
theorem dL_law_3267 : decode cL_law 3267 = .ok (.iconst 0, 1) := by decide +kernel
theorem dL_law_3268 : decode cL_law 3268 = .ok (.ireturn, 1) := by decide +kernel
theorem dL_law_3269 : decode cL_law 3269 = .ok (.aload_n 1, 1) := by decide +kernel
theorem dL_law_3270 : decode cL_law 3270 = .ok (.aload_n 0, 1) := by decide +kernel
theorem dL_law_3271 : decode cL_law 3271 = .ok (.iload 5, 2) := by decide +kernel
theorem dL_law_3273 : decode cL_law 3273 = .ok (.iconst 1, 1) := by decide +kernel
theorem dL_law_3274 : decode cL_law 3274 = .ok (.iadd, 1) := by decide +kernel
theorem dL_law_3275 : decode cL_law 3275 = .ok (.iaload, 1) := by decide +kernel
theorem dL_law_3276 : decode cL_law 3276 = .ok (.aload_n 3, 1) := by decide +kernel
theorem dL_law_3277 : decode cL_law 3277 = .ok (.invokestatic 362, 3) := by decide +kernel
theorem dL_law_3280 : decode cL_law 3280 = .ok (.istore 6, 2) := by decide +kernel
theorem dL_law_3282 : decode cL_law 3282 = .ok (.aload_n 2, 1) := by decide +kernel
theorem dL_law_3283 : decode cL_law 3283 = .ok (.aload_n 0, 1) := by decide +kernel
theorem dL_law_3284 : decode cL_law 3284 = .ok (.iload 5, 2) := by decide +kernel
theorem dL_law_3286 : decode cL_law 3286 = .ok (.iconst 1, 1) := by decide +kernel
theorem dL_law_3287 : decode cL_law 3287 = .ok (.iadd, 1) := by decide +kernel
theorem dL_law_3288 : decode cL_law 3288 = .ok (.iaload, 1) := by decide +kernel
theorem dL_law_3289 : decode cL_law 3289 = .ok (.invokevirtual 364, 3) := by decide +kernel
theorem dL_law_3292 : decode cL_law 3292 = .ok (.istore 7, 2) := by decide +kernel
theorem dL_law_3294 : decode cL_law 3294 = .ok (.aload_n 2, 1) := by decide +kernel
theorem dL_law_3295 : decode cL_law 3295 = .ok (.invokevirtual 192, 3) := by decide +kernel
theorem dL_law_3298 : decode cL_law 3298 = .ok (.iload 6, 2) := by decide +kernel
theorem dL_law_3300 : decode cL_law 3300 = .ok (.if_icmp .eq 5, 3) := by decide +kernel
theorem dL_law_3303 : decode cL_law 3303 = .ok (.iconst 0, 1) := by decide +kernel
theorem dL_law_3304 : decode cL_law 3304 = .ok (.ireturn, 1) := by decide +kernel
theorem dL_law_3305 : decode cL_law 3305 = .ok (.iload 6, 2) := by decide +kernel
theorem dL_law_3307 : decode cL_law 3307 = .ok (.ifCond .ne 15, 3) := by decide +kernel
theorem dL_law_3310 : decode cL_law 3310 = .ok (.aload_n 3, 1) := by decide +kernel
theorem dL_law_3311 : decode cL_law 3311 = .ok (.iconst 0, 1) := by decide +kernel
theorem dL_law_3312 : decode cL_law 3312 = .ok (.laload, 1) := by decide +kernel
theorem dL_law_3313 : decode cL_law 3313 = .ok (.iload 7, 2) := by decide +kernel
theorem dL_law_3315 : decode cL_law 3315 = .ok (.i2l, 1) := by decide +kernel
theorem dL_law_3316 : decode cL_law 3316 = .ok (.lcmp, 1) := by decide +kernel
theorem dL_law_3317 : decode cL_law 3317 = .ok (.ifCond .eq 5, 3) := by decide +kernel
theorem dL_law_3320 : decode cL_law 3320 = .ok (.iconst 0, 1) := by decide +kernel
theorem dL_law_3321 : decode cL_law 3321 = .ok (.ireturn, 1) := by decide +kernel
theorem dL_law_3322 : decode cL_law 3322 = .ok (.goto 406, 3) := by decide +kernel
theorem dL_law_3325 : decode cL_law 3325 = .ok (.aload_n 1, 1) := by decide +kernel
theorem dL_law_3326 : decode cL_law 3326 = .ok (.aload_n 0, 1) := by decide +kernel
theorem dL_law_3327 : decode cL_law 3327 = .ok (.iload 5, 2) := by decide +kernel
theorem dL_law_3329 : decode cL_law 3329 = .ok (.iconst 1, 1) := by decide +kernel
theorem dL_law_3330 : decode cL_law 3330 = .ok (.iadd, 1) := by decide +kernel
theorem dL_law_3331 : decode cL_law 3331 = .ok (.iaload, 1) := by decide +kernel
theorem dL_law_3332 : decode cL_law 3332 = .ok (.aload_n 3, 1) := by decide +kernel
theorem dL_law_3333 : decode cL_law 3333 = .ok (.invokestatic 365, 3) := by decide +kernel
theorem dL_law_3336 : decode cL_law 3336 = .ok (.istore 6, 2) := by decide +kernel
theorem dL_law_3338 : decode cL_law 3338 = .ok (.aload_n 2, 1) := by decide +kernel
theorem dL_law_3339 : decode cL_law 3339 = .ok (.aload_n 0, 1) := by decide +kernel
theorem dL_law_3340 : decode cL_law 3340 = .ok (.iload 5, 2) := by decide +kernel
theorem dL_law_3342 : decode cL_law 3342 = .ok (.iconst 1, 1) := by decide +kernel
theorem dL_law_3343 : decode cL_law 3343 = .ok (.iadd, 1) := by decide +kernel
theorem dL_law_3344 : decode cL_law 3344 = .ok (.iaload, 1) := by decide +kernel
theorem dL_law_3345 : decode cL_law 3345 = .ok (.invokevirtual 367, 3) := by decide +kernel
theorem dL_law_3348 : decode cL_law 3348 = .ok (.istore 7, 2) := by decide +kernel
theorem dL_law_3350 : decode cL_law 3350 = .ok (.aload_n 2, 1) := by decide +kernel
theorem dL_law_3351 : decode cL_law 3351 = .ok (.invokevirtual 192, 3) := by decide +kernel
theorem dL_law_3354 : decode cL_law 3354 = .ok (.iload 6, 2) := by decide +kernel
theorem dL_law_3356 : decode cL_law 3356 = .ok (.if_icmp .eq 5, 3) := by decide +kernel
theorem dL_law_3359 : decode cL_law 3359 = .ok (.iconst 0, 1) := by decide +kernel
theorem dL_law_3360 : decode cL_law 3360 = .ok (.ireturn, 1) := by decide +kernel
theorem dL_law_3361 : decode cL_law 3361 = .ok (.iload 6, 2) := by decide +kernel
theorem dL_law_3363 : decode cL_law 3363 = .ok (.ifCond .ne 15, 3) := by decide +kernel
theorem dL_law_3366 : decode cL_law 3366 = .ok (.aload_n 3, 1) := by decide +kernel
theorem dL_law_3367 : decode cL_law 3367 = .ok (.iconst 0, 1) := by decide +kernel
theorem dL_law_3368 : decode cL_law 3368 = .ok (.laload, 1) := by decide +kernel
theorem dL_law_3369 : decode cL_law 3369 = .ok (.iload 7, 2) := by decide +kernel
theorem dL_law_3371 : decode cL_law 3371 = .ok (.i2l, 1) := by decide +kernel
theorem dL_law_3372 : decode cL_law 3372 = .ok (.lcmp, 1) := by decide +kernel
theorem dL_law_3373 : decode cL_law 3373 = .ok (.ifCond .eq 5, 3) := by decide +kernel
theorem dL_law_3376 : decode cL_law 3376 = .ok (.iconst 0, 1) := by decide +kernel
theorem dL_law_3377 : decode cL_law 3377 = .ok (.ireturn, 1) := by decide +kernel
theorem dL_law_3378 : decode cL_law 3378 = .ok (.goto 350, 3) := by decide +kernel
theorem dL_law_3381 : decode cL_law 3381 = .ok (.aload_n 1, 1) := by decide +kernel
theorem dL_law_3382 : decode cL_law 3382 = .ok (.aload_n 0, 1) := by decide +kernel
theorem dL_law_3383 : decode cL_law 3383 = .ok (.iload 5, 2) := by decide +kernel
theorem dL_law_3385 : decode cL_law 3385 = .ok (.iconst 1, 1) := by decide +kernel
theorem dL_law_3386 : decode cL_law 3386 = .ok (.iadd, 1) := by decide +kernel
theorem dL_law_3387 : decode cL_law 3387 = .ok (.iaload, 1) := by decide +kernel
theorem dL_law_3388 : decode cL_law 3388 = .ok (.aload_n 3, 1) := by decide +kernel
theorem dL_law_3389 : decode cL_law 3389 = .ok (.invokestatic 368, 3) := by decide +kernel
theorem dL_law_3392 : decode cL_law 3392 = .ok (.istore 6, 2) := by decide +kernel
theorem dL_law_3394 : decode cL_law 3394 = .ok (.aload_n 2, 1) := by decide +kernel
theorem dL_law_3395 : decode cL_law 3395 = .ok (.aload_n 0, 1) := by decide +kernel
theorem dL_law_3396 : decode cL_law 3396 = .ok (.iload 5, 2) := by decide +kernel
theorem dL_law_3398 : decode cL_law 3398 = .ok (.iconst 1, 1) := by decide +kernel
theorem dL_law_3399 : decode cL_law 3399 = .ok (.iadd, 1) := by decide +kernel
theorem dL_law_3400 : decode cL_law 3400 = .ok (.iaload, 1) := by decide +kernel
theorem dL_law_3401 : decode cL_law 3401 = .ok (.invokevirtual 370, 3) := by decide +kernel
theorem dL_law_3404 : decode cL_law 3404 = .ok (.istore 7, 2) := by decide +kernel
theorem dL_law_3406 : decode cL_law 3406 = .ok (.aload_n 2, 1) := by decide +kernel
theorem dL_law_3407 : decode cL_law 3407 = .ok (.invokevirtual 192, 3) := by decide +kernel
theorem dL_law_3410 : decode cL_law 3410 = .ok (.iload 6, 2) := by decide +kernel
theorem dL_law_3412 : decode cL_law 3412 = .ok (.if_icmp .eq 5, 3) := by decide +kernel
theorem dL_law_3415 : decode cL_law 3415 = .ok (.iconst 0, 1) := by decide +kernel
theorem dL_law_3416 : decode cL_law 3416 = .ok (.ireturn, 1) := by decide +kernel
theorem dL_law_3417 : decode cL_law 3417 = .ok (.iload 6, 2) := by decide +kernel
theorem dL_law_3419 : decode cL_law 3419 = .ok (.ifCond .ne 15, 3) := by decide +kernel
theorem dL_law_3422 : decode cL_law 3422 = .ok (.aload_n 3, 1) := by decide +kernel
theorem dL_law_3423 : decode cL_law 3423 = .ok (.iconst 0, 1) := by decide +kernel
theorem dL_law_3424 : decode cL_law 3424 = .ok (.laload, 1) := by decide +kernel
theorem dL_law_3425 : decode cL_law 3425 = .ok (.iload 7, 2) := by decide +kernel
theorem dL_law_3427 : decode cL_law 3427 = .ok (.i2l, 1) := by decide +kernel
theorem dL_law_3428 : decode cL_law 3428 = .ok (.lcmp, 1) := by decide +kernel
theorem dL_law_3429 : decode cL_law 3429 = .ok (.ifCond .eq 5, 3) := by decide +kernel
theorem dL_law_3432 : decode cL_law 3432 = .ok (.iconst 0, 1) := by decide +kernel
theorem dL_law_3433 : decode cL_law 3433 = .ok (.ireturn, 1) := by decide +kernel
theorem dL_law_3434 : decode cL_law 3434 = .ok (.goto 294, 3) := by decide +kernel
theorem dL_law_3437 : decode cL_law 3437 = .ok (.aload_n 1, 1) := by decide +kernel
theorem dL_law_3438 : decode cL_law 3438 = .ok (.aload_n 0, 1) := by decide +kernel
theorem dL_law_3439 : decode cL_law 3439 = .ok (.iload 5, 2) := by decide +kernel
theorem dL_law_3441 : decode cL_law 3441 = .ok (.iconst 1, 1) := by decide +kernel
theorem dL_law_3442 : decode cL_law 3442 = .ok (.iadd, 1) := by decide +kernel
theorem dL_law_3443 : decode cL_law 3443 = .ok (.iaload, 1) := by decide +kernel
theorem dL_law_3444 : decode cL_law 3444 = .ok (.i2c, 1) := by decide +kernel
theorem dL_law_3445 : decode cL_law 3445 = .ok (.aload_n 3, 1) := by decide +kernel
theorem dL_law_3446 : decode cL_law 3446 = .ok (.invokestatic 371, 3) := by decide +kernel
theorem dL_law_3449 : decode cL_law 3449 = .ok (.istore 6, 2) := by decide +kernel
theorem dL_law_3451 : decode cL_law 3451 = .ok (.aload_n 2, 1) := by decide +kernel
theorem dL_law_3452 : decode cL_law 3452 = .ok (.aload_n 0, 1) := by decide +kernel
theorem dL_law_3453 : decode cL_law 3453 = .ok (.iload 5, 2) := by decide +kernel
theorem dL_law_3455 : decode cL_law 3455 = .ok (.iconst 1, 1) := by decide +kernel
theorem dL_law_3456 : decode cL_law 3456 = .ok (.iadd, 1) := by decide +kernel
theorem dL_law_3457 : decode cL_law 3457 = .ok (.iaload, 1) := by decide +kernel
theorem dL_law_3458 : decode cL_law 3458 = .ok (.i2c, 1) := by decide +kernel
theorem dL_law_3459 : decode cL_law 3459 = .ok (.invokevirtual 374, 3) := by decide +kernel
theorem dL_law_3462 : decode cL_law 3462 = .ok (.istore 7, 2) := by decide +kernel
theorem dL_law_3464 : decode cL_law 3464 = .ok (.aload_n 2, 1) := by decide +kernel
theorem dL_law_3465 : decode cL_law 3465 = .ok (.invokevirtual 192, 3) := by decide +kernel
theorem dL_law_3468 : decode cL_law 3468 = .ok (.iload 6, 2) := by decide +kernel
theorem dL_law_3470 : decode cL_law 3470 = .ok (.if_icmp .eq 5, 3) := by decide +kernel
theorem dL_law_3473 : decode cL_law 3473 = .ok (.iconst 0, 1) := by decide +kernel
theorem dL_law_3474 : decode cL_law 3474 = .ok (.ireturn, 1) := by decide +kernel
theorem dL_law_3475 : decode cL_law 3475 = .ok (.iload 6, 2) := by decide +kernel
theorem dL_law_3477 : decode cL_law 3477 = .ok (.ifCond .ne 15, 3) := by decide +kernel
theorem dL_law_3480 : decode cL_law 3480 = .ok (.aload_n 3, 1) := by decide +kernel
theorem dL_law_3481 : decode cL_law 3481 = .ok (.iconst 0, 1) := by decide +kernel
theorem dL_law_3482 : decode cL_law 3482 = .ok (.laload, 1) := by decide +kernel
theorem dL_law_3483 : decode cL_law 3483 = .ok (.iload 7, 2) := by decide +kernel
theorem dL_law_3485 : decode cL_law 3485 = .ok (.i2l, 1) := by decide +kernel
theorem dL_law_3486 : decode cL_law 3486 = .ok (.lcmp, 1) := by decide +kernel
theorem dL_law_3487 : decode cL_law 3487 = .ok (.ifCond .eq 5, 3) := by decide +kernel
theorem dL_law_3490 : decode cL_law 3490 = .ok (.iconst 0, 1) := by decide +kernel
theorem dL_law_3491 : decode cL_law 3491 = .ok (.ireturn, 1) := by decide +kernel
theorem dL_law_3492 : decode cL_law 3492 = .ok (.goto 236, 3) := by decide +kernel
theorem dL_law_3495 : decode cL_law 3495 = .ok (.aload_n 1, 1) := by decide +kernel
theorem dL_law_3496 : decode cL_law 3496 = .ok (.aload_n 3, 1) := by decide +kernel
theorem dL_law_3497 : decode cL_law 3497 = .ok (.invokestatic 375, 3) := by decide +kernel
theorem dL_law_3500 : decode cL_law 3500 = .ok (.istore 6, 2) := by decide +kernel
theorem dL_law_3502 : decode cL_law 3502 = .ok (.aload_n 2, 1) := by decide +kernel
theorem dL_law_3503 : decode cL_law 3503 = .ok (.invokevirtual 378, 3) := by decide +kernel
theorem dL_law_3506 : decode cL_law 3506 = .ok (.istore 7, 2) := by decide +kernel
theorem dL_law_3508 : decode cL_law 3508 = .ok (.aload_n 2, 1) := by decide +kernel
theorem dL_law_3509 : decode cL_law 3509 = .ok (.invokevirtual 192, 3) := by decide +kernel
theorem dL_law_3512 : decode cL_law 3512 = .ok (.iload 6, 2) := by decide +kernel
theorem dL_law_3514 : decode cL_law 3514 = .ok (.if_icmp .eq 5, 3) := by decide +kernel
theorem dL_law_3517 : decode cL_law 3517 = .ok (.iconst 0, 1) := by decide +kernel
theorem dL_law_3518 : decode cL_law 3518 = .ok (.ireturn, 1) := by decide +kernel
theorem dL_law_3519 : decode cL_law 3519 = .ok (.iload 6, 2) := by decide +kernel
theorem dL_law_3521 : decode cL_law 3521 = .ok (.ifCond .ne 15, 3) := by decide +kernel
theorem dL_law_3524 : decode cL_law 3524 = .ok (.aload_n 3, 1) := by decide +kernel
