theorem dL_law__3114 : decode cL_law_ 3114 = .ok (.istore 6, 2) := by decide +kernel
theorem dL_law__3116 : decode cL_law_ 3116 = .ok (.aload_n 2, 1) := by decide +kernel
theorem dL_law__3117 : decode cL_law_ 3117 = .ok (.invokevirtual 174, 3) := by decide +kernel
theorem dL_law__3120 : decode cL_law_ 3120 = .ok (.iload 5, 2) := by decide +kernel
theorem dL_law__3122 : decode cL_law_ 3122 = .ok (.if_icmp .eq 5, 3) := by decide +kernel
theorem dL_law__3125 : decode cL_law_ 3125 = .ok (.iconst 0, 1) := by decide +kernel
theorem dL_law__3126 : decode cL_law_ 3126 = .ok (.ireturn, 1) := by decide +kernel
theorem dL_law__3127 : decode cL_law_ 3127 = .ok (.iload 5, 2) := by decide +kernel
theorem dL_law__3129 : decode cL_law_ 3129 = .ok (.ifCond .ne 15, 3) := by decide +kernel
theorem dL_law__3132 : decode cL_law_ 3132 = .ok (.aload_n 3, 1) := by decide +kernel
theorem dL_law__3133 : decode cL_law_ 3133 = .ok (.iconst 0, 1) := by decide +kernel
theorem dL_law__3134 : decode cL_law_ 3134 = .ok (.laload, 1) := by decide +kernel
theorem dL_law__3135 : decode cL_law_ 3135 = .ok (.iload 6, 2) := by decide +kernel
theorem dL_law__3137 : decode cL_law_ 3137 = .ok (.i2l, 1) := by decide +kernel
theorem dL_law__3138 : decode cL_law_ 3138 = .ok (.lcmp, 1) := by decide +kernel
theorem dL_law__3139 : decode cL_law_ 3139 = .ok (.ifCond .eq 5, 3) := by decide +kernel
theorem dL_law__3142 : decode cL_law_ 3142 = .ok (.iconst 0, 1) := by decide +kernel
theorem dL_law__3143 : decode cL_law_ 3143 = .ok (.ireturn, 1) := by decide +kernel
theorem dL_law__3144 : decode cL_law_ 3144 = .ok (.goto 443, 3) := by decide +kernel
theorem dL_law__3147 : decode cL_law_ 3147 = .ok (.aload_n 1, 1) := by decide +kernel
theorem dL_law__3148 : decode cL_law_ 3148 = .ok (.aload_n 0, 1) := by decide +kernel
theorem dL_law__3149 : decode cL_law_ 3149 = .ok (.iload 4, 2) := by decide +kernel
theorem dL_law__3151 : decode cL_law_ 3151 = .ok (.iconst 1, 1) := by decide +kernel
theorem dL_law__3152 : decode cL_law_ 3152 = .ok (.iadd, 1) := by decide +kernel
theorem dL_law__3153 : decode cL_law_ 3153 = .ok (.iaload, 1) := by decide +kernel
theorem dL_law__3154 : decode cL_law_ 3154 = .ok (.aload_n 0, 1) := by decide +kernel
theorem dL_law__3155 : decode cL_law_ 3155 = .ok (.iload 4, 2) := by decide +kernel
theorem dL_law__3157 : decode cL_law_ 3157 = .ok (.iconst 2, 1) := by decide +kernel
theorem dL_law__3158 : decode cL_law_ 3158 = .ok (.iadd, 1) := by decide +kernel
theorem dL_law__3159 : decode cL_law_ 3159 = .ok (.iaload, 1) := by decide +kernel
theorem dL_law__3160 : decode cL_law_ 3160 = .ok (.aload_n 0, 1) := by decide +kernel
theorem dL_law__3161 : decode cL_law_ 3161 = .ok (.iload 4, 2) := by decide +kernel
theorem dL_law__3163 : decode cL_law_ 3163 = .ok (.iconst 3, 1) := by decide +kernel
theorem dL_law__3164 : decode cL_law_ 3164 = .ok (.iadd, 1) := by decide +kernel
theorem dL_law__3165 : decode cL_law_ 3165 = .ok (.iaload, 1) := by decide +kernel
theorem dL_law__3166 : decode cL_law_ 3166 = .ok (.ifCond .eq 7, 3) := by decide +kernel
theorem dL_law__3169 : decode cL_law_ 3169 = .ok (.iconst 1, 1) := by decide +kernel
theorem dL_law__3170 : decode cL_law_ 3170 = .ok (.goto 4, 3) := by decide +kernel
theorem dL_law__3173 : decode cL_law_ 3173 = .ok (.iconst 0, 1) := by decide +kernel
theorem dL_law__3174 : decode cL_law_ 3174 = .ok (.aload_n 3, 1) := by decide +kernel
theorem dL_law__3175 : decode cL_law_ 3175 = .ok (.invokestatic 307, 3) := by decide +kernel
theorem dL_law__3178 : decode cL_law_ 3178 = .ok (.istore 5, 2) := by decide +kernel
theorem dL_law__3180 : decode cL_law_ 3180 = .ok (.aload_n 2, 1) := by decide +kernel
theorem dL_law__3181 : decode cL_law_ 3181 = .ok (.aload_n 0, 1) := by decide +kernel
theorem dL_law__3182 : decode cL_law_ 3182 = .ok (.iload 4, 2) := by decide +kernel
theorem dL_law__3184 : decode cL_law_ 3184 = .ok (.iconst 1, 1) := by decide +kernel
theorem dL_law__3185 : decode cL_law_ 3185 = .ok (.iadd, 1) := by decide +kernel
theorem dL_law__3186 : decode cL_law_ 3186 = .ok (.iaload, 1) := by decide +kernel
theorem dL_law__3187 : decode cL_law_ 3187 = .ok (.aload_n 0, 1) := by decide +kernel
theorem dL_law__3188 : decode cL_law_ 3188 = .ok (.iload 4, 2) := by decide +kernel
theorem dL_law__3190 : decode cL_law_ 3190 = .ok (.iconst 2, 1) := by decide +kernel
theorem dL_law__3191 : decode cL_law_ 3191 = .ok (.iadd, 1) := by decide +kernel
theorem dL_law__3192 : decode cL_law_ 3192 = .ok (.iaload, 1) := by decide +kernel
theorem dL_law__3193 : decode cL_law_ 3193 = .ok (.aload_n 0, 1) := by decide +kernel
theorem dL_law__3194 : decode cL_law_ 3194 = .ok (.iload 4, 2) := by decide +kernel
theorem dL_law__3196 : decode cL_law_ 3196 = .ok (.iconst 3, 1) := by decide +kernel
theorem dL_law__3197 : decode cL_law_ 3197 = .ok (.iadd, 1) := by decide +kernel
theorem dL_law__3198 : decode cL_law_ 3198 = .ok (.iaload, 1) := by decide +kernel
theorem dL_law__3199 : decode cL_law_ 3199 = .ok (.ifCond .eq 7, 3) := by decide +kernel
theorem dL_law__3202 : decode cL_law_ 3202 = .ok (.iconst 1, 1) := by decide +kernel
theorem dL_law__3203 : decode cL_law_ 3203 = .ok (.goto 4, 3) := by decide +kernel
theorem dL_law__3206 : decode cL_law_ 3206 = .ok (.iconst 0, 1) := by decide +kernel
theorem dL_law__3207 : decode cL_law_ 3207 = .ok (.invokevirtual 309, 3) := by decide +kernel
theorem dL_law__3210 : decode cL_law_ 3210 = .ok (.istore 6, 2) := by decide +kernel
theorem dL_law__3212 : decode cL_law_ 3212 = .ok (.aload_n 2, 1) := by decide +kernel
theorem dL_law__3213 : decode cL_law_ 3213 = .ok (.invokevirtual 174, 3) := by decide +kernel
theorem dL_law__3216 : decode cL_law_ 3216 = .ok (.iload 5, 2) := by decide +kernel
theorem dL_law__3218 : decode cL_law_ 3218 = .ok (.if_icmp .eq 5, 3) := by decide +kernel
theorem dL_law__3221 : decode cL_law_ 3221 = .ok (.iconst 0, 1) := by decide +kernel
theorem dL_law__3222 : decode cL_law_ 3222 = .ok (.ireturn, 1) := by decide +kernel
theorem dL_law__3223 : decode cL_law_ 3223 = .ok (.iload 5, 2) := by decide +kernel
theorem dL_law__3225 : decode cL_law_ 3225 = .ok (.ifCond .ne 15, 3) := by decide +kernel
theorem dL_law__3228 : decode cL_law_ 3228 = .ok (.aload_n 3, 1) := by decide +kernel
theorem dL_law__3229 : decode cL_law_ 3229 = .ok (.iconst 0, 1) := by decide +kernel
theorem dL_law__3230 : decode cL_law_ 3230 = .ok (.laload, 1) := by decide +kernel
theorem dL_law__3231 : decode cL_law_ 3231 = .ok (.iload 6, 2) := by decide +kernel
theorem dL_law__3233 : decode cL_law_ 3233 = .ok (.i2l, 1) := by decide +kernel
theorem dL_law__3234 : decode cL_law_ 3234 = .ok (.lcmp, 1) := by decide +kernel
theorem dL_law__3235 : decode cL_law_ 3235 = .ok (.ifCond .eq 5, 3) := by decide +kernel
theorem dL_law__3238 : decode cL_law_ 3238 = .ok (.iconst 0, 1) := by decide +kernel
theorem dL_law__3239 : decode cL_law_ 3239 = .ok (.ireturn, 1) := by decide +kernel
theorem dL_law__3240 : decode cL_law_ 3240 = .ok (.goto 347, 3) := by decide +kernel
theorem dL_law__3243 : decode cL_law_ 3243 = .ok (.aload_n 1, 1) := by decide +kernel
theorem dL_law__3244 : decode cL_law_ 3244 = .ok (.aload_n 0, 1) := by decide +kernel
theorem dL_law__3245 : decode cL_law_ 3245 = .ok (.iload 4, 2) := by decide +kernel
theorem dL_law__3247 : decode cL_law_ 3247 = .ok (.iconst 1, 1) := by decide +kernel
theorem dL_law__3248 : decode cL_law_ 3248 = .ok (.iadd, 1) := by decide +kernel
theorem dL_law__3249 : decode cL_law_ 3249 = .ok (.iaload, 1) := by decide +kernel
theorem dL_law__3250 : decode cL_law_ 3250 = .ok (.aload_n 0, 1) := by decide +kernel
theorem dL_law__3251 : decode cL_law_ 3251 = .ok (.iload 4, 2) := by decide +kernel
theorem dL_law__3253 : decode cL_law_ 3253 = .ok (.iconst 2, 1) := by decide +kernel
theorem dL_law__3254 : decode cL_law_ 3254 = .ok (.iadd, 1) := by decide +kernel
theorem dL_law__3255 : decode cL_law_ 3255 = .ok (.iaload, 1) := by decide +kernel
theorem dL_law__3256 : decode cL_law_ 3256 = .ok (.aload_n 0, 1) := by decide +kernel
theorem dL_law__3257 : decode cL_law_ 3257 = .ok (.iload 4, 2) := by decide +kernel
theorem dL_law__3259 : decode cL_law_ 3259 = .ok (.iconst 3, 1) := by decide +kernel
theorem dL_law__3260 : decode cL_law_ 3260 = .ok (.iadd, 1) := by decide +kernel
theorem dL_law__3261 : decode cL_law_ 3261 = .ok (.iaload, 1) := by decide +kernel
theorem dL_law__3262 : decode cL_law_ 3262 = .ok (.aload_n 3, 1) := by decide +kernel
theorem dL_law__3263 : decode cL_law_ 3263 = .ok (.invokestatic 310, 3) := by decide +kernel
theorem dL_law__3266 : decode cL_law_ 3266 = .ok (.istore 5, 2) := by decide +kernel
theorem dL_law__3268 : decode cL_law_ 3268 = .ok (.aload_n 2, 1) := by decide +kernel
theorem dL_law__3269 : decode cL_law_ 3269 = .ok (.aload_n 0, 1) := by decide +kernel
theorem dL_law__3270 : decode cL_law_ 3270 = .ok (.iload 4, 2) := by decide +kernel
theorem dL_law__3272 : decode cL_law_ 3272 = .ok (.iconst 1, 1) := by decide +kernel
theorem dL_law__3273 : decode cL_law_ 3273 = .ok (.iadd, 1) := by decide +kernel
theorem dL_law__3274 : decode cL_law_ 3274 = .ok (.iaload, 1) := by decide +kernel
theorem dL_law__3275 : decode cL_law_ 3275 = .ok (.aload_n 0, 1) := by decide +kernel
theorem dL_law__3276 : decode cL_law_ 3276 = .ok (.iload 4, 2) := by decide +kernel
theorem dL_law__3278 : decode cL_law_ 3278 = .ok (.iconst 2, 1) := by decide +kernel
theorem dL_law__3279 : decode cL_law_ 3279 = .ok (.iadd, 1) := by decide +kernel
theorem dL_law__3280 : decode cL_law_ 3280 = .ok (.iaload, 1) := by decide +kernel
theorem dL_law__3281 : decode cL_law_ 3281 = .ok (.aload_n 0, 1) := by decide +kernel
theorem dL_law__3282 : decode cL_law_ 3282 = .ok (.iload 4, 2) := by decide +kernel
theorem dL_law__3284 : decode cL_law_ 3284 = .ok (.iconst 3, 1) := by decide +kernel
theorem dL_law__3285 : decode cL_law_ 3285 = .ok (.iadd, 1) := by decide +kernel
theorem dL_law__3286 : decode cL_law_ 3286 = .ok (.iaload, 1) := by decide +kernel
theorem dL_law__3287 : decode cL_law_ 3287 = .ok (.invokevirtual 312, 3) := by decide +kernel
theorem dL_law__3290 : decode cL_law_ 3290 = .ok (.istore 6, 2) := by decide +kernel
theorem dL_law__3292 : decode cL_law_ 3292 = .ok (.aload_n 2, 1) := by decide +kernel
theorem dL_law__3293 : decode cL_law_ 3293 = .ok (.invokevirtual 174, 3) := by decide +kernel
theorem dL_law__3296 : decode cL_law_ 3296 = .ok (.iload 5, 2) := by decide +kernel
theorem dL_law__3298 : decode cL_law_ 3298 = .ok (.if_icmp .eq 5, 3) := by decide +kernel
theorem dL_law__3301 : decode cL_law_ 3301 = .ok (.iconst 0, 1) := by decide +kernel
theorem dL_law__3302 : decode cL_law_ 3302 = .ok (.ireturn, 1) := by decide +kernel
theorem dL_law__3303 : decode cL_law_ 3303 = .ok (.iload 5, 2) := by decide +kernel
theorem dL_law__3305 : decode cL_law_ 3305 = .ok (.ifCond .ne 15, 3) := by decide +kernel
theorem dL_law__3308 : decode cL_law_ 3308 = .ok (.aload_n 3, 1) := by decide +kernel
theorem dL_law__3309 : decode cL_law_ 3309 = .ok (.iconst 0, 1) := by decide +kernel
theorem dL_law__3310 : decode cL_law_ 3310 = .ok (.laload, 1) := by decide +kernel
theorem dL_law__3311 : decode cL_law_ 3311 = .ok (.iload 6, 2) := by decide +kernel
theorem dL_law__3313 : decode cL_law_ 3313 = .ok (.i2l, 1) := by decide +kernel
theorem dL_law__3314 : decode cL_law_ 3314 = .ok (.lcmp, 1) := by decide +kernel
theorem dL_law__3315 : decode cL_law_ 3315 = .ok (.ifCond .eq 5, 3) := by decide +kernel
theorem dL_law__3318 : decode cL_law_ 3318 = .ok (.iconst 0, 1) := by decide +kernel
theorem dL_law__3319 : decode cL_law_ 3319 = .ok (.ireturn, 1) := by decide +kernel
theorem dL_law__3320 : decode cL_law_ 3320 = .ok (.goto 267, 3) := by decide +kernel
theorem dL_law__3323 : decode cL_law_ 3323 = .ok (.aload_n 1, 1) := by decide +kernel
theorem dL_law__3324 : decode cL_law_ 3324 = .ok (.aload_n 0, 1) := by decide +kernel
theorem dL_law__3325 : decode cL_law_ 3325 = .ok (.iload 4, 2) := by decide +kernel
theorem dL_law__3327 : decode cL_law_ 3327 = .ok (.iconst 1, 1) := by decide +kernel
theorem dL_law__3328 : decode cL_law_ 3328 = .ok (.iadd, 1) := by decide +kernel
theorem dL_law__3329 : decode cL_law_ 3329 = .ok (.iaload, 1) := by decide +kernel
theorem dL_law__3330 : decode cL_law_ 3330 = .ok (.aload_n 0, 1) := by decide +kernel
theorem dL_law__3331 : decode cL_law_ 3331 = .ok (.iload 4, 2) := by decide +kernel
theorem dL_law__3333 : decode cL_law_ 3333 = .ok (.iconst 2, 1) := by decide +kernel
theorem dL_law__3334 : decode cL_law_ 3334 = .ok (.iadd, 1) := by decide +kernel
theorem dL_law__3335 : decode cL_law_ 3335 = .ok (.iaload, 1) := by decide +kernel
theorem dL_law__3336 : decode cL_law_ 3336 = .ok (.aload_n 3, 1) := by decide +kernel
theorem dL_law__3337 : decode cL_law_ 3337 = .ok (.invokestatic 313, 3) := by decide +kernel
theorem dL_law__3340 : decode cL_law_ 3340 = .ok (.istore 5, 2) := by decide +kernel
theorem dL_law__3342 : decode cL_law_ 3342 = .ok (.aload_n 2, 1) := by decide +kernel
theorem dL_law__3343 : decode cL_law_ 3343 = .ok (.aload_n 0, 1) := by decide +kernel
theorem dL_law__3344 : decode cL_law_ 3344 = .ok (.iload 4, 2) := by decide +kernel
theorem dL_law__3346 : decode cL_law_ 3346 = .ok (.iconst 1, 1) := by decide +kernel
theorem dL_law__3347 : decode cL_law_ 3347 = .ok (.iadd, 1) := by decide +kernel
theorem dL_law__3348 : decode cL_law_ 3348 = .ok (.iaload, 1) := by decide +kernel
theorem dL_law__3349 : decode cL_law_ 3349 = .ok (.aload_n 0, 1) := by decide +kernel
theorem dL_law__3350 : decode cL_law_ 3350 = .ok (.iload 4, 2) := by decide +kernel
theorem dL_law__3352 : decode cL_law_ 3352 = .ok (.iconst 2, 1) := by decide +kernel
theorem dL_law__3353 : decode cL_law_ 3353 = .ok (.iadd, 1) := by decide +kernel
theorem dL_law__3354 : decode cL_law_ 3354 = .ok (.iaload, 1) := by decide +kernel
theorem dL_law__3355 : decode cL_law_ 3355 = .ok (.invokevirtual 315, 3) := by decide +kernel
theorem dL_law__3358 : decode cL_law_ 3358 = .ok (.istore 6, 2) := by decide +kernel
theorem dL_law__3360 : decode cL_law_ 3360 = .ok (.aload_n 2, 1) := by decide +kernel
theorem dL_law__3361 : decode cL_law_ 3361 = .ok (.invokevirtual 174, 3) := by decide +kernel
theorem dL_law__3364 : decode cL_law_ 3364 = .ok (.iload 5, 2) := by decide +kernel
theorem dL_law__3366 : decode cL_law_ 3366 = .ok (.if_icmp .eq 5, 3) := by decide +kernel
theorem dL_law__3369 : decode cL_law_ 3369 = .ok (.iconst 0, 1) := by decide +kernel
theorem dL_law__3370 : decode cL_law_ 3370 = .ok (.ireturn, 1) := by decide +kernel
theorem dL_law__3371 : decode cL_law_ 3371 = .ok (.iload 5, 2) := by decide +kernel
theorem dL_law__3373 : decode cL_law_ 3373 = .ok (.ifCond .ne 15, 3) := by decide +kernel
theorem dL_law__3376 : decode cL_law_ 3376 = .ok (.aload_n 3, 1) := by decide +kernel
theorem dL_law__3377 : decode cL_law_ 3377 = .ok (.iconst 0, 1) := by decide +kernel
theorem dL_law__3378 : decode cL_law_ 3378 = .ok (.laload, 1) := by decide +kernel
theorem dL_law__3379 : decode cL_law_ 3379 = .ok (.iload 6, 2) := by decide +kernel
theorem dL_law__3381 : decode cL_law_ 3381 = .ok (.i2l, 1) := by decide +kernel
theorem dL_law__3382 : decode cL_law_ 3382 = .ok (.lcmp, 1) := by decide +kernel
theorem dL_law__3383 : decode cL_law_ 3383 = .ok (.ifCond .eq 5, 3) := by decide +kernel
theorem dL_law__3386 : decode cL_law_ 3386 = .ok (.iconst 0, 1) := by decide +kernel
theorem dL_law__3387 : decode cL_law_ 3387 = .ok (.ireturn, 1) := by decide +kernel
theorem dL_law__3388 : decode cL_law_ 3388 = .ok (.goto 199, 3) := by decide +kernel
theorem dL_law__3391 : decode cL_law_ 3391 = .ok (.aload_n 1, 1) := by decide +kernel
theorem dL_law__3392 : decode cL_law_ 3392 = .ok (.aload_n 0, 1) := by decide +kernel
theorem dL_law__3393 : decode cL_law_ 3393 = .ok (.iload 4, 2) := by decide +kernel
theorem dL_law__3395 : decode cL_law_ 3395 = .ok (.iconst 1, 1) := by decide +kernel
theorem dL_law__3396 : decode cL_law_ 3396 = .ok (.iadd, 1) := by decide +kernel
theorem dL_law__3397 : decode cL_law_ 3397 = .ok (.iaload, 1) := by decide +kernel
theorem dL_law__3398 : decode cL_law_ 3398 = .ok (.aload_n 0, 1) := by decide +kernel
theorem dL_law__3399 : decode cL_law_ 3399 = .ok (.iload 4, 2) := by decide +kernel
theorem dL_law__3401 : decode cL_law_ 3401 = .ok (.iconst 2, 1) := by decide +kernel
theorem dL_law__3402 : decode cL_law_ 3402 = .ok (.iadd, 1) := by decide +kernel
theorem dL_law__3403 : decode cL_law_ 3403 = .ok (.iaload, 1) := by decide +kernel
theorem dL_law__3404 : decode cL_law_ 3404 = .ok (.ifCond .eq 7, 3) := by decide +kernel
theorem dL_law__3407 : decode cL_law_ 3407 = .ok (.iconst 1, 1) := by decide +kernel
theorem dL_law__3408 : decode cL_law_ 3408 = .ok (.goto 4, 3) := by decide +kernel
theorem dL_law__3411 : decode cL_law_ 3411 = .ok (.iconst 0, 1) := by decide +kernel
theorem dL_law__3412 : decode cL_law_ 3412 = .ok (.aload_n 3, 1) := by decide +kernel
theorem dL_law__3413 : decode cL_law_ 3413 = .ok (.invokestatic 316, 3) := by decide +kernel
theorem dL_law__3416 : decode cL_law_ 3416 = .ok (.istore 5, 2) := by decide +kernel
theorem dL_law__3418 : decode cL_law_ 3418 = .ok (.aload_n 2, 1) := by decide +kernel
theorem dL_law__3419 : decode cL_law_ 3419 = .ok (.aload_n 0, 1) := by decide +kernel
theorem dL_law__3420 : decode cL_law_ 3420 = .ok (.iload 4, 2) := by decide +kernel
theorem dL_law__3422 : decode cL_law_ 3422 = .ok (.iconst 1, 1) := by decide +kernel
theorem dL_law__3423 : decode cL_law_ 3423 = .ok (.iadd, 1) := by decide +kernel
theorem dL_law__3424 : decode cL_law_ 3424 = .ok (.iaload, 1) := by decide +kernel
theorem dL_law__3425 : decode cL_law_ 3425 = .ok (.aload_n 0, 1) := by decide +kernel
theorem dL_law__3426 : decode cL_law_ 3426 = .ok (.iload 4, 2) := by decide +kernel
theorem dL_law__3428 : decode cL_law_ 3428 = .ok (.iconst 2, 1) := by decide +kernel
theorem dL_law__3429 : decode cL_law_ 3429 = .ok (.iadd, 1) := by decide +kernel
theorem dL_law__3430 : decode cL_law_ 3430 = .ok (.iaload, 1) := by decide +kernel
theorem dL_law__3431 : decode cL_law_ 3431 = .ok (.ifCond .eq 7, 3) := by decide +kernel
theorem dL_law__3434 : decode cL_law_ 3434 = .ok (.iconst 1, 1) := by decide +kernel
theorem dL_law__3435 : decode cL_law_ 3435 = .ok (.goto 4, 3) := by decide +kernel
theorem dL_law__3438 : decode cL_law_ 3438 = .ok (.iconst 0, 1) := by decide +kernel
theorem dL_law__3439 : decode cL_law_ 3439 = .ok (.invokevirtual 318, 3) := by decide +kernel
theorem dL_law__3442 : decode cL_law_ 3442 = .ok (.istore 6, 2) := by decide +kernel
theorem dL_law__3444 : decode cL_law_ 3444 = .ok (.aload_n 2, 1) := by decide +kernel
theorem dL_law__3445 : decode cL_law_ 3445 = .ok (.invokevirtual 174, 3) := by decide +kernel
theorem dL_law__3448 : decode cL_law_ 3448 = .ok (.iload 5, 2) := by decide +kernel
theorem dL_law__3450 : decode cL_law_ 3450 = .ok (.if_icmp .eq 5, 3) := by decide +kernel
theorem dL_law__3453 : decode cL_law_ 3453 = .ok (.iconst 0, 1) := by decide +kernel
theorem dL_law__3454 : decode cL_law_ 3454 = .ok (.ireturn, 1) := by decide +kernel
theorem dL_law__3455 : decode cL_law_ 3455 = .ok (.iload 5, 2) := by decide +kernel
theorem dL_law__3457 : decode cL_law_ 3457 = .ok (.ifCond .ne 15, 3) := by decide +kernel
theorem dL_law__3460 : decode cL_law_ 3460 = .ok (.aload_n 3, 1) := by decide +kernel
theorem dL_law__3461 : decode cL_law_ 3461 = .ok (.iconst 0, 1) := by decide +kernel
theorem dL_law__3462 : decode cL_law_ 3462 = .ok (.laload, 1) := by decide +kernel
theorem dL_law__3463 : decode cL_law_ 3463 = .ok (.iload 6, 2) := by decide +kernel
theorem dL_law__3465 : decode cL_law_ 3465 = .ok (.i2l, 1) := by decide +kernel
theorem dL_law__3466 : decode cL_law_ 3466 = .ok (.lcmp, 1) := by decide +kernel
theorem dL_law__3467 : decode cL_law_ 3467 = .ok (.ifCond .eq 5, 3) := by decide +kernel
theorem dL_law__3470 : decode cL_law_ 3470 = .ok (.iconst 0, 1) := by decide +kernel
theorem dL_law__3471 : decode cL_law_ 3471 = .ok (.ireturn, 1) := by decide +kernel
theorem dL_law__3472 : decode cL_law_ 3472 = .ok (.goto 115, 3) := by decide +kernel
theorem dL_law__3475 : decode cL_law_ 3475 = .ok (.aload_n 1, 1) := by decide +kernel
theorem dL_law__3476 : decode cL_law_ 3476 = .ok (.aload_n 0, 1) := by decide +kernel
theorem dL_law__3477 : decode cL_law_ 3477 = .ok (.iload 4, 2) := by decide +kernel
theorem dL_law__3479 : decode cL_law_ 3479 = .ok (.iconst 1, 1) := by decide +kernel
theorem dL_law__3480 : decode cL_law_ 3480 = .ok (.iadd, 1) := by decide +kernel
theorem dL_law__3481 : decode cL_law_ 3481 = .ok (.iaload, 1) := by decide +kernel
theorem dL_law__3482 : decode cL_law_ 3482 = .ok (.invokevirtual 319, 3) := by decide +kernel
theorem dL_law__3485 : decode cL_law_ 3485 = .ok (.aload_n 2, 1) := by decide +kernel
theorem dL_law__3486 : decode cL_law_ 3486 = .ok (.aload_n 0, 1) := by decide +kernel
theorem dL_law__3487 : decode cL_law_ 3487 = .ok (.iload 4, 2) := by decide +kernel
theorem dL_law__3489 : decode cL_law_ 3489 = .ok (.iconst 1, 1) := by decide +kernel
theorem dL_law__3490 : decode cL_law_ 3490 = .ok (.iadd, 1) := by decide +kernel
theorem dL_law__3491 : decode cL_law_ 3491 = .ok (.iaload, 1) := by decide +kernel
theorem dL_law__3492 : decode cL_law_ 3492 = .ok (.invokevirtual 322, 3) := by decide +kernel
theorem dL_law__3495 : decode cL_law_ 3495 = .ok (.if_icmp .eq 92, 3) := by decide +kernel
theorem dL_law__3498 : decode cL_law_ 3498 = .ok (.iconst 0, 1) := by decide +kernel
theorem dL_law__3499 : decode cL_law_ 3499 = .ok (.ireturn, 1) := by decide +kernel
theorem dL_law__3500 : decode cL_law_ 3500 = .ok (.aload_n 1, 1) := by decide +kernel
theorem dL_law__3501 : decode cL_law_ 3501 = .ok (.aload_n 0, 1) := by decide +kernel
theorem dL_law__3502 : decode cL_law_ 3502 = .ok (.iload 4, 2) := by decide +kernel
theorem dL_law__3504 : decode cL_law_ 3504 = .ok (.iconst 1, 1) := by decide +kernel
theorem dL_law__3505 : decode cL_law_ 3505 = .ok (.iadd, 1) := by decide +kernel
theorem dL_law__3506 : decode cL_law_ 3506 = .ok (.iaload, 1) := by decide +kernel
theorem dL_law__3507 : decode cL_law_ 3507 = .ok (.invokevirtual 323, 3) := by decide +kernel
theorem dL_law__3510 : decode cL_law_ 3510 = .ok (.aload_n 2, 1) := by decide +kernel
theorem dL_law__3511 : decode cL_law_ 3511 = .ok (.aload_n 0, 1) := by decide +kernel
theorem dL_law__3512 : decode cL_law_ 3512 = .ok (.iload 4, 2) := by decide +kernel
theorem dL_law__3514 : decode cL_law_ 3514 = .ok (.iconst 1, 1) := by decide +kernel
theorem dL_law__3515 : decode cL_law_ 3515 = .ok (.iadd, 1) := by decide +kernel
theorem dL_law__3516 : decode cL_law_ 3516 = .ok (.iaload, 1) := by decide +kernel
theorem dL_law__3517 : decode cL_law_ 3517 = .ok (.invokevirtual 326, 3) := by decide +kernel
theorem dL_law__3520 : decode cL_law_ 3520 = .ok (.if_icmp .eq 67, 3) := by decide +kernel
theorem dL_law__3523 : decode cL_law_ 3523 = .ok (.iconst 0, 1) := by decide +kernel
theorem dL_law__3524 : decode cL_law_ 3524 = .ok (.ireturn, 1) := by decide +kernel
theorem dL_law__3525 : decode cL_law_ 3525 = .ok (.aload_n 1, 1) := by decide +kernel
theorem dL_law__3526 : decode cL_law_ 3526 = .ok (.invokevirtual 327, 3) := by decide +kernel
theorem dL_law__3529 : decode cL_law_ 3529 = .ok (.aload_n 2, 1) := by decide +kernel
theorem dL_law__3530 : decode cL_law_ 3530 = .ok (.invokevirtual 331, 3) := by decide +kernel
theorem dL_law__3533 : decode cL_law_ 3533 = .ok (.if_icmp .eq 54, 3) := by decide +kernel
theorem dL_law__3536 : decode cL_law_ 3536 = .ok (.iconst 0, 1) := by decide +kernel
theorem dL_law__3537 : decode cL_law_ 3537 = .ok (.ireturn, 1) := by decide +kernel
theorem dL_law__3538 : decode cL_law_ 3538 = .ok (.aload_n 1, 1) := by decide +kernel
theorem dL_law__3539 : decode cL_law_ 3539 = .ok (.invokevirtual 332, 3) := by decide +kernel
theorem dL_law__3542 : decode cL_law_ 3542 = .ok (.aload_n 2, 1) := by decide +kernel
theorem dL_law__3543 : decode cL_law_ 3543 = .ok (.invokevirtual 335, 3) := by decide +kernel
theorem dL_law__3546 : decode cL_law_ 3546 = .ok (.goto 41, 3) := by decide +kernel
theorem dL_law__3549 : decode cL_law_ 3549 = .ok (.aload_n 1, 1) := by decide +kernel
theorem dL_law__3550 : decode cL_law_ 3550 = .ok (.invokevirtual 336, 3) := by decide +kernel
theorem dL_law__3553 : decode cL_law_ 3553 = .ok (.aload_n 2, 1) := by decide +kernel
theorem dL_law__3554 : decode cL_law_ 3554 = .ok (.invokevirtual 339, 3) := by decide +kernel
theorem dL_law__3557 : decode cL_law_ 3557 = .ok (.if_icmp .eq 30, 3) := by decide +kernel
theorem dL_law__3560 : decode cL_law_ 3560 = .ok (.iconst 0, 1) := by decide +kernel
theorem dL_law__3561 : decode cL_law_ 3561 = .ok (.ireturn, 1) := by decide +kernel
theorem dL_law__3562 : decode cL_law_ 3562 = .ok (.aload_n 1, 1) := by decide +kernel
theorem dL_law__3563 : decode cL_law_ 3563 = .ok (.aload_n 0, 1) := by decide +kernel
theorem dL_law__3564 : decode cL_law_ 3564 = .ok (.iload 4, 2) := by decide +kernel
theorem dL_law__3566 : decode cL_law_ 3566 = .ok (.iconst 1, 1) := by decide +kernel
theorem dL_law__3567 : decode cL_law_ 3567 = .ok (.iadd, 1) := by decide +kernel
theorem dL_law__3568 : decode cL_law_ 3568 = .ok (.iaload, 1) := by decide +kernel
theorem dL_law__3569 : decode cL_law_ 3569 = .ok (.invokevirtual 340, 3) := by decide +kernel
theorem dL_law__3572 : decode cL_law_ 3572 = .ok (.aload_n 2, 1) := by decide +kernel
theorem dL_law__3573 : decode cL_law_ 3573 = .ok (.aload_n 0, 1) := by decide +kernel
theorem dL_law__3574 : decode cL_law_ 3574 = .ok (.iload 4, 2) := by decide +kernel
theorem dL_law__3576 : decode cL_law_ 3576 = .ok (.iconst 1, 1) := by decide +kernel
theorem dL_law__3577 : decode cL_law_ 3577 = .ok (.iadd, 1) := by decide +kernel
theorem dL_law__3578 : decode cL_law_ 3578 = .ok (.iaload, 1) := by decide +kernel
theorem dL_law__3579 : decode cL_law_ 3579 = .ok (.invokevirtual 343, 3) := by decide +kernel
theorem dL_law__3582 : decode cL_law_ 3582 = .ok (.if_icmp .eq 5, 3) := by decide +kernel
theorem dL_law__3585 : decode cL_law_ 3585 = .ok (.iconst 0, 1) := by decide +kernel
theorem dL_law__3586 : decode cL_law_ 3586 = .ok (.ireturn, 1) := by decide +kernel
theorem dL_law__3587 : decode cL_law_ 3587 = .ok (.iinc 4 6, 3) := by decide +kernel
theorem dL_law__3590 : decode cL_law_ 3590 = .ok (.goto (-3567), 3) := by decide +kernel
theorem dL_law__3593 : decode cL_law_ 3593 = .ok (.iconst 1, 1) := by decide +kernel
theorem dL_law__3594 : decode cL_law_ 3594 = .ok (.ireturn, 1) := by decide +kernel
