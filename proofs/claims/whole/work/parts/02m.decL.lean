/-! decode rows of the law's body, 13 -/
theorem dL_law_3142 : decode code 3142 = .ok (.iconst 0, 1) := by decide +kernel
theorem dL_law_3143 : decode code 3143 = .ok (.laload, 1) := by decide +kernel
theorem dL_law_3144 : decode code 3144 = .ok (.iload 6, 2) := by decide +kernel
theorem dL_law_3146 : decode code 3146 = .ok (.i2l, 1) := by decide +kernel
theorem dL_law_3147 : decode code 3147 = .ok (.lcmp, 1) := by decide +kernel
theorem dL_law_3148 : decode code 3148 = .ok (.ifCond .eq 5, 3) := by decide +kernel
theorem dL_law_3151 : decode code 3151 = .ok (.iconst 0, 1) := by decide +kernel
theorem dL_law_3152 : decode code 3152 = .ok (.ireturn, 1) := by decide +kernel
theorem dL_law_3153 : decode code 3153 = .ok (.goto 328, 3) := by decide +kernel
theorem dL_law_3156 : decode code 3156 = .ok (.aload_n 1, 1) := by decide +kernel
theorem dL_law_3157 : decode code 3157 = .ok (.aload_n 0, 1) := by decide +kernel
theorem dL_law_3158 : decode code 3158 = .ok (.iload 4, 2) := by decide +kernel
theorem dL_law_3160 : decode code 3160 = .ok (.iconst 1, 1) := by decide +kernel
theorem dL_law_3161 : decode code 3161 = .ok (.iadd, 1) := by decide +kernel
theorem dL_law_3162 : decode code 3162 = .ok (.iaload, 1) := by decide +kernel
theorem dL_law_3163 : decode code 3163 = .ok (.aload_n 3, 1) := by decide +kernel
theorem dL_law_3164 : decode code 3164 = .ok (.invokestatic 363, 3) := by decide +kernel
theorem dL_law_3167 : decode code 3167 = .ok (.istore 5, 2) := by decide +kernel
theorem dL_law_3169 : decode code 3169 = .ok (.aload_n 2, 1) := by decide +kernel
theorem dL_law_3170 : decode code 3170 = .ok (.aload_n 0, 1) := by decide +kernel
theorem dL_law_3171 : decode code 3171 = .ok (.iload 4, 2) := by decide +kernel
theorem dL_law_3173 : decode code 3173 = .ok (.iconst 1, 1) := by decide +kernel
theorem dL_law_3174 : decode code 3174 = .ok (.iadd, 1) := by decide +kernel
theorem dL_law_3175 : decode code 3175 = .ok (.iaload, 1) := by decide +kernel
theorem dL_law_3176 : decode code 3176 = .ok (.invokevirtual 365, 3) := by decide +kernel
theorem dL_law_3179 : decode code 3179 = .ok (.istore 6, 2) := by decide +kernel
theorem dL_law_3181 : decode code 3181 = .ok (.aload_n 2, 1) := by decide +kernel
theorem dL_law_3182 : decode code 3182 = .ok (.invokevirtual 166, 3) := by decide +kernel
theorem dL_law_3185 : decode code 3185 = .ok (.iload 5, 2) := by decide +kernel
theorem dL_law_3187 : decode code 3187 = .ok (.if_icmp .eq 5, 3) := by decide +kernel
theorem dL_law_3190 : decode code 3190 = .ok (.iconst 0, 1) := by decide +kernel
theorem dL_law_3191 : decode code 3191 = .ok (.ireturn, 1) := by decide +kernel
theorem dL_law_3192 : decode code 3192 = .ok (.iload 5, 2) := by decide +kernel
theorem dL_law_3194 : decode code 3194 = .ok (.ifCond .ne 15, 3) := by decide +kernel
theorem dL_law_3197 : decode code 3197 = .ok (.aload_n 3, 1) := by decide +kernel
theorem dL_law_3198 : decode code 3198 = .ok (.iconst 0, 1) := by decide +kernel
theorem dL_law_3199 : decode code 3199 = .ok (.laload, 1) := by decide +kernel
theorem dL_law_3200 : decode code 3200 = .ok (.iload 6, 2) := by decide +kernel
theorem dL_law_3202 : decode code 3202 = .ok (.i2l, 1) := by decide +kernel
theorem dL_law_3203 : decode code 3203 = .ok (.lcmp, 1) := by decide +kernel
theorem dL_law_3204 : decode code 3204 = .ok (.ifCond .eq 5, 3) := by decide +kernel
theorem dL_law_3207 : decode code 3207 = .ok (.iconst 0, 1) := by decide +kernel
theorem dL_law_3208 : decode code 3208 = .ok (.ireturn, 1) := by decide +kernel
theorem dL_law_3209 : decode code 3209 = .ok (.goto 272, 3) := by decide +kernel
theorem dL_law_3212 : decode code 3212 = .ok (.aload_n 1, 1) := by decide +kernel
theorem dL_law_3213 : decode code 3213 = .ok (.aload_n 3, 1) := by decide +kernel
theorem dL_law_3214 : decode code 3214 = .ok (.invokestatic 366, 3) := by decide +kernel
theorem dL_law_3217 : decode code 3217 = .ok (.istore 5, 2) := by decide +kernel
theorem dL_law_3219 : decode code 3219 = .ok (.aload_n 2, 1) := by decide +kernel
theorem dL_law_3220 : decode code 3220 = .ok (.invokevirtual 368, 3) := by decide +kernel
theorem dL_law_3223 : decode code 3223 = .ok (.istore 6, 2) := by decide +kernel
theorem dL_law_3225 : decode code 3225 = .ok (.aload_n 2, 1) := by decide +kernel
theorem dL_law_3226 : decode code 3226 = .ok (.invokevirtual 166, 3) := by decide +kernel
theorem dL_law_3229 : decode code 3229 = .ok (.iload 5, 2) := by decide +kernel
theorem dL_law_3231 : decode code 3231 = .ok (.if_icmp .eq 5, 3) := by decide +kernel
theorem dL_law_3234 : decode code 3234 = .ok (.iconst 0, 1) := by decide +kernel
theorem dL_law_3235 : decode code 3235 = .ok (.ireturn, 1) := by decide +kernel
theorem dL_law_3236 : decode code 3236 = .ok (.iload 5, 2) := by decide +kernel
theorem dL_law_3238 : decode code 3238 = .ok (.ifCond .ne 15, 3) := by decide +kernel
theorem dL_law_3241 : decode code 3241 = .ok (.aload_n 3, 1) := by decide +kernel
theorem dL_law_3242 : decode code 3242 = .ok (.iconst 0, 1) := by decide +kernel
theorem dL_law_3243 : decode code 3243 = .ok (.laload, 1) := by decide +kernel
theorem dL_law_3244 : decode code 3244 = .ok (.iload 6, 2) := by decide +kernel
theorem dL_law_3246 : decode code 3246 = .ok (.i2l, 1) := by decide +kernel
theorem dL_law_3247 : decode code 3247 = .ok (.lcmp, 1) := by decide +kernel
theorem dL_law_3248 : decode code 3248 = .ok (.ifCond .eq 5, 3) := by decide +kernel
theorem dL_law_3251 : decode code 3251 = .ok (.iconst 0, 1) := by decide +kernel
theorem dL_law_3252 : decode code 3252 = .ok (.ireturn, 1) := by decide +kernel
theorem dL_law_3253 : decode code 3253 = .ok (.goto 228, 3) := by decide +kernel
theorem dL_law_3256 : decode code 3256 = .ok (.aload_n 1, 1) := by decide +kernel
theorem dL_law_3257 : decode code 3257 = .ok (.aload_n 3, 1) := by decide +kernel
theorem dL_law_3258 : decode code 3258 = .ok (.invokestatic 369, 3) := by decide +kernel
theorem dL_law_3261 : decode code 3261 = .ok (.istore 5, 2) := by decide +kernel
theorem dL_law_3263 : decode code 3263 = .ok (.aload_n 2, 1) := by decide +kernel
theorem dL_law_3264 : decode code 3264 = .ok (.invokevirtual 371, 3) := by decide +kernel
theorem dL_law_3267 : decode code 3267 = .ok (.istore 6, 2) := by decide +kernel
theorem dL_law_3269 : decode code 3269 = .ok (.aload_n 2, 1) := by decide +kernel
theorem dL_law_3270 : decode code 3270 = .ok (.invokevirtual 166, 3) := by decide +kernel
theorem dL_law_3273 : decode code 3273 = .ok (.iload 5, 2) := by decide +kernel
theorem dL_law_3275 : decode code 3275 = .ok (.if_icmp .eq 5, 3) := by decide +kernel
theorem dL_law_3278 : decode code 3278 = .ok (.iconst 0, 1) := by decide +kernel
theorem dL_law_3279 : decode code 3279 = .ok (.ireturn, 1) := by decide +kernel
theorem dL_law_3280 : decode code 3280 = .ok (.iload 5, 2) := by decide +kernel
theorem dL_law_3282 : decode code 3282 = .ok (.ifCond .ne 15, 3) := by decide +kernel
theorem dL_law_3285 : decode code 3285 = .ok (.aload_n 3, 1) := by decide +kernel
theorem dL_law_3286 : decode code 3286 = .ok (.iconst 0, 1) := by decide +kernel
theorem dL_law_3287 : decode code 3287 = .ok (.laload, 1) := by decide +kernel
theorem dL_law_3288 : decode code 3288 = .ok (.iload 6, 2) := by decide +kernel
theorem dL_law_3290 : decode code 3290 = .ok (.i2l, 1) := by decide +kernel
theorem dL_law_3291 : decode code 3291 = .ok (.lcmp, 1) := by decide +kernel
theorem dL_law_3292 : decode code 3292 = .ok (.ifCond .eq 5, 3) := by decide +kernel
theorem dL_law_3295 : decode code 3295 = .ok (.iconst 0, 1) := by decide +kernel
theorem dL_law_3296 : decode code 3296 = .ok (.ireturn, 1) := by decide +kernel
theorem dL_law_3297 : decode code 3297 = .ok (.goto 184, 3) := by decide +kernel
theorem dL_law_3300 : decode code 3300 = .ok (.aload_n 1, 1) := by decide +kernel
theorem dL_law_3301 : decode code 3301 = .ok (.aload_n 0, 1) := by decide +kernel
theorem dL_law_3302 : decode code 3302 = .ok (.iload 4, 2) := by decide +kernel
theorem dL_law_3304 : decode code 3304 = .ok (.iconst 1, 1) := by decide +kernel
theorem dL_law_3305 : decode code 3305 = .ok (.iadd, 1) := by decide +kernel
theorem dL_law_3306 : decode code 3306 = .ok (.iaload, 1) := by decide +kernel
theorem dL_law_3307 : decode code 3307 = .ok (.aload_n 3, 1) := by decide +kernel
theorem dL_law_3308 : decode code 3308 = .ok (.invokestatic 372, 3) := by decide +kernel
theorem dL_law_3311 : decode code 3311 = .ok (.istore 5, 2) := by decide +kernel
theorem dL_law_3313 : decode code 3313 = .ok (.aload_n 2, 1) := by decide +kernel
theorem dL_law_3314 : decode code 3314 = .ok (.aload_n 0, 1) := by decide +kernel
theorem dL_law_3315 : decode code 3315 = .ok (.iload 4, 2) := by decide +kernel
theorem dL_law_3317 : decode code 3317 = .ok (.iconst 1, 1) := by decide +kernel
theorem dL_law_3318 : decode code 3318 = .ok (.iadd, 1) := by decide +kernel
theorem dL_law_3319 : decode code 3319 = .ok (.iaload, 1) := by decide +kernel
theorem dL_law_3320 : decode code 3320 = .ok (.invokevirtual 374, 3) := by decide +kernel
theorem dL_law_3323 : decode code 3323 = .ok (.istore 6, 2) := by decide +kernel
theorem dL_law_3325 : decode code 3325 = .ok (.aload_n 2, 1) := by decide +kernel
theorem dL_law_3326 : decode code 3326 = .ok (.invokevirtual 166, 3) := by decide +kernel
theorem dL_law_3329 : decode code 3329 = .ok (.iload 5, 2) := by decide +kernel
theorem dL_law_3331 : decode code 3331 = .ok (.if_icmp .eq 5, 3) := by decide +kernel
theorem dL_law_3334 : decode code 3334 = .ok (.iconst 0, 1) := by decide +kernel
theorem dL_law_3335 : decode code 3335 = .ok (.ireturn, 1) := by decide +kernel
theorem dL_law_3336 : decode code 3336 = .ok (.iload 5, 2) := by decide +kernel
theorem dL_law_3338 : decode code 3338 = .ok (.ifCond .ne 15, 3) := by decide +kernel
theorem dL_law_3341 : decode code 3341 = .ok (.aload_n 3, 1) := by decide +kernel
theorem dL_law_3342 : decode code 3342 = .ok (.iconst 0, 1) := by decide +kernel
theorem dL_law_3343 : decode code 3343 = .ok (.laload, 1) := by decide +kernel
theorem dL_law_3344 : decode code 3344 = .ok (.iload 6, 2) := by decide +kernel
theorem dL_law_3346 : decode code 3346 = .ok (.i2l, 1) := by decide +kernel
theorem dL_law_3347 : decode code 3347 = .ok (.lcmp, 1) := by decide +kernel
theorem dL_law_3348 : decode code 3348 = .ok (.ifCond .eq 5, 3) := by decide +kernel
theorem dL_law_3351 : decode code 3351 = .ok (.iconst 0, 1) := by decide +kernel
theorem dL_law_3352 : decode code 3352 = .ok (.ireturn, 1) := by decide +kernel
theorem dL_law_3353 : decode code 3353 = .ok (.goto 128, 3) := by decide +kernel
theorem dL_law_3356 : decode code 3356 = .ok (.aload_n 1, 1) := by decide +kernel
theorem dL_law_3357 : decode code 3357 = .ok (.aload_n 0, 1) := by decide +kernel
theorem dL_law_3358 : decode code 3358 = .ok (.iload 4, 2) := by decide +kernel
theorem dL_law_3360 : decode code 3360 = .ok (.iconst 1, 1) := by decide +kernel
theorem dL_law_3361 : decode code 3361 = .ok (.iadd, 1) := by decide +kernel
theorem dL_law_3362 : decode code 3362 = .ok (.iaload, 1) := by decide +kernel
theorem dL_law_3363 : decode code 3363 = .ok (.aload_n 3, 1) := by decide +kernel
theorem dL_law_3364 : decode code 3364 = .ok (.invokestatic 375, 3) := by decide +kernel
theorem dL_law_3367 : decode code 3367 = .ok (.istore 5, 2) := by decide +kernel
theorem dL_law_3369 : decode code 3369 = .ok (.aload_n 2, 1) := by decide +kernel
theorem dL_law_3370 : decode code 3370 = .ok (.aload_n 0, 1) := by decide +kernel
theorem dL_law_3371 : decode code 3371 = .ok (.iload 4, 2) := by decide +kernel
theorem dL_law_3373 : decode code 3373 = .ok (.iconst 1, 1) := by decide +kernel
theorem dL_law_3374 : decode code 3374 = .ok (.iadd, 1) := by decide +kernel
theorem dL_law_3375 : decode code 3375 = .ok (.iaload, 1) := by decide +kernel
theorem dL_law_3376 : decode code 3376 = .ok (.invokevirtual 377, 3) := by decide +kernel
theorem dL_law_3379 : decode code 3379 = .ok (.istore 6, 2) := by decide +kernel
theorem dL_law_3381 : decode code 3381 = .ok (.aload_n 2, 1) := by decide +kernel
theorem dL_law_3382 : decode code 3382 = .ok (.invokevirtual 166, 3) := by decide +kernel
theorem dL_law_3385 : decode code 3385 = .ok (.iload 5, 2) := by decide +kernel
theorem dL_law_3387 : decode code 3387 = .ok (.if_icmp .eq 5, 3) := by decide +kernel
