/-! names of the JDK methods that are reached -/
abbrev bJ9_max_7cf53 : ByteArray := prog_16_method_65_code
def yJ9_max_7cf53 : MethodName := ⟨"java/lang/Math", "max", "(II)I"⟩
theorem wJ9_max_7cf53 : YS yJ9_max_7cf53 bJ9_max_7cf53 2 (some .int) 2 := ⟨LW_i 548 (by decide +kernel) (by decide +kernel), LW_i 128 (by decide +kernel) (by decide +kernel), LW_i 549 (by decide +kernel) (by decide +kernel), by decide +kernel, by decide +kernel⟩
theorem dJ9_max_7cf53_0 : decode bJ9_max_7cf53 0 = .ok (.iload_n 0, 1) := by decide +kernel
theorem dJ9_max_7cf53_1 : decode bJ9_max_7cf53 1 = .ok (.iload_n 1, 1) := by decide +kernel
theorem dJ9_max_7cf53_2 : decode bJ9_max_7cf53 2 = .ok (.if_icmp .lt 7, 3) := by decide +kernel
theorem dJ9_max_7cf53_5 : decode bJ9_max_7cf53 5 = .ok (.iload_n 0, 1) := by decide +kernel
theorem dJ9_max_7cf53_6 : decode bJ9_max_7cf53 6 = .ok (.goto 4, 3) := by decide +kernel
theorem dJ9_max_7cf53_9 : decode bJ9_max_7cf53 9 = .ok (.iload_n 1, 1) := by decide +kernel
theorem dJ9_max_7cf53_10 : decode bJ9_max_7cf53 10 = .ok (.ireturn, 1) := by decide +kernel
abbrev bJ9_min_7cf53 : ByteArray := prog_16_method_69_code
def yJ9_min_7cf53 : MethodName := ⟨"java/lang/Math", "min", "(II)I"⟩
theorem wJ9_min_7cf53 : YS yJ9_min_7cf53 bJ9_min_7cf53 2 (some .int) 2 := ⟨LW_i 631 (by decide +kernel) (by decide +kernel), LW_i 128 (by decide +kernel) (by decide +kernel), LW_i 632 (by decide +kernel) (by decide +kernel), by decide +kernel, by decide +kernel⟩
theorem dJ9_min_7cf53_0 : decode bJ9_min_7cf53 0 = .ok (.iload_n 0, 1) := by decide +kernel
theorem dJ9_min_7cf53_1 : decode bJ9_min_7cf53 1 = .ok (.iload_n 1, 1) := by decide +kernel
theorem dJ9_min_7cf53_2 : decode bJ9_min_7cf53 2 = .ok (.if_icmp .gt 7, 3) := by decide +kernel
theorem dJ9_min_7cf53_5 : decode bJ9_min_7cf53 5 = .ok (.iload_n 0, 1) := by decide +kernel
theorem dJ9_min_7cf53_6 : decode bJ9_min_7cf53 6 = .ok (.goto 4, 3) := by decide +kernel
theorem dJ9_min_7cf53_9 : decode bJ9_min_7cf53 9 = .ok (.iload_n 1, 1) := by decide +kernel
theorem dJ9_min_7cf53_10 : decode bJ9_min_7cf53 10 = .ok (.ireturn, 1) := by decide +kernel
abbrev bJ0_length_8abf5 : ByteArray := prog_18_method_54_code
def yJ0_length_8abf5 : MethodName := ⟨"java/lang/String", "length", "()I"⟩
theorem wJ0_length_8abf5 : YV yJ0_length_8abf5 bJ0_length_8abf5 1 (some .int) 0 := ⟨LW_i 335 (by decide +kernel) (by decide +kernel), LW_i 336 (by decide +kernel) (by decide +kernel), LW_i 116 (by decide +kernel) (by decide +kernel), LW_i 337 (by decide +kernel) (by decide +kernel), by decide +kernel, by decide +kernel⟩
theorem dJ0_length_8abf5_0 : decode bJ0_length_8abf5 0 = .ok (.aload_n 0, 1) := by decide +kernel
theorem dJ0_length_8abf5_1 : decode bJ0_length_8abf5 1 = .ok (.getfield 9, 3) := by decide +kernel
theorem dJ0_length_8abf5_4 : decode bJ0_length_8abf5 4 = .ok (.arraylength, 1) := by decide +kernel
theorem dJ0_length_8abf5_5 : decode bJ0_length_8abf5 5 = .ok (.aload_n 0, 1) := by decide +kernel
theorem dJ0_length_8abf5_6 : decode bJ0_length_8abf5 6 = .ok (.invokevirtual 335, 3) := by decide +kernel
theorem dJ0_length_8abf5_9 : decode bJ0_length_8abf5 9 = .ok (.ishr, 1) := by decide +kernel
theorem dJ0_length_8abf5_10 : decode bJ0_length_8abf5 10 = .ok (.ireturn, 1) := by decide +kernel
abbrev bJ0_charAt_5068e : ByteArray := prog_18_method_56_code
def yJ0_charAt_5068e : MethodName := ⟨"java/lang/String", "charAt", "(I)C"⟩
theorem wJ0_charAt_5068e : YV yJ0_charAt_5068e bJ0_charAt_5068e 2 (some .char) 1 := ⟨LW_i 345 (by decide +kernel) (by decide +kernel), LW_i 346 (by decide +kernel) (by decide +kernel), LW_i 116 (by decide +kernel) (by decide +kernel), LW_i 347 (by decide +kernel) (by decide +kernel), by decide +kernel, by decide +kernel⟩
theorem dJ0_charAt_5068e_0 : decode bJ0_charAt_5068e 0 = .ok (.aload_n 0, 1) := by decide +kernel
theorem dJ0_charAt_5068e_1 : decode bJ0_charAt_5068e 1 = .ok (.invokevirtual 492, 3) := by decide +kernel
theorem dJ0_charAt_5068e_4 : decode bJ0_charAt_5068e 4 = .ok (.ifCond .eq 12, 3) := by decide +kernel
theorem dJ0_charAt_5068e_7 : decode bJ0_charAt_5068e 7 = .ok (.aload_n 0, 1) := by decide +kernel
theorem dJ0_charAt_5068e_8 : decode bJ0_charAt_5068e 8 = .ok (.getfield 9, 3) := by decide +kernel
theorem dJ0_charAt_5068e_11 : decode bJ0_charAt_5068e 11 = .ok (.iload_n 1, 1) := by decide +kernel
theorem dJ0_charAt_5068e_12 : decode bJ0_charAt_5068e 12 = .ok (.invokestatic 495, 3) := by decide +kernel
theorem dJ0_charAt_5068e_15 : decode bJ0_charAt_5068e 15 = .ok (.ireturn, 1) := by decide +kernel
theorem dJ0_charAt_5068e_16 : decode bJ0_charAt_5068e 16 = .ok (.aload_n 0, 1) := by decide +kernel
theorem dJ0_charAt_5068e_17 : decode bJ0_charAt_5068e 17 = .ok (.getfield 9, 3) := by decide +kernel
theorem dJ0_charAt_5068e_20 : decode bJ0_charAt_5068e 20 = .ok (.iload_n 1, 1) := by decide +kernel
theorem dJ0_charAt_5068e_21 : decode bJ0_charAt_5068e 21 = .ok (.invokestatic 498, 3) := by decide +kernel
theorem dJ0_charAt_5068e_24 : decode bJ0_charAt_5068e 24 = .ok (.ireturn, 1) := by decide +kernel
abbrev bJ0_coder_7d493 : ByteArray := prog_18_method_152_code
def yJ0_coder_7d493 : MethodName := ⟨"java/lang/String", "coder", "()B"⟩
theorem wJ0_coder_7d493 : YV yJ0_coder_7d493 bJ0_coder_7d493 1 (some .byte) 0 := ⟨LW_i 339 (by decide +kernel) (by decide +kernel), LW_i 340 (by decide +kernel) (by decide +kernel), LW_i 116 (by decide +kernel) (by decide +kernel), LW_i 341 (by decide +kernel) (by decide +kernel), by decide +kernel, by decide +kernel⟩
theorem dJ0_coder_7d493_0 : decode bJ0_coder_7d493 0 = .ok (.getstatic 38, 3) := by decide +kernel
theorem dJ0_coder_7d493_3 : decode bJ0_coder_7d493 3 = .ok (.ifCond .eq 10, 3) := by decide +kernel
theorem dJ0_coder_7d493_6 : decode bJ0_coder_7d493 6 = .ok (.aload_n 0, 1) := by decide +kernel
theorem dJ0_coder_7d493_7 : decode bJ0_coder_7d493 7 = .ok (.getfield 15, 3) := by decide +kernel
theorem dJ0_coder_7d493_10 : decode bJ0_coder_7d493 10 = .ok (.goto 4, 3) := by decide +kernel
theorem dJ0_coder_7d493_13 : decode bJ0_coder_7d493 13 = .ok (.iconst 1, 1) := by decide +kernel
theorem dJ0_coder_7d493_14 : decode bJ0_coder_7d493 14 = .ok (.ireturn, 1) := by decide +kernel
abbrev bJ0_isLatin1_aae02 : ByteArray := prog_18_method_154_code
def yJ0_isLatin1_aae02 : MethodName := ⟨"java/lang/String", "isLatin1", "()Z"⟩
theorem wJ0_isLatin1_aae02 : YV yJ0_isLatin1_aae02 bJ0_isLatin1_aae02 1 (some .boolean) 0 := ⟨LW_i 349 (by decide +kernel) (by decide +kernel), LW_i 350 (by decide +kernel) (by decide +kernel), LW_i 116 (by decide +kernel) (by decide +kernel), LW_i 351 (by decide +kernel) (by decide +kernel), by decide +kernel, by decide +kernel⟩
theorem dJ0_isLatin1_aae02_0 : decode bJ0_isLatin1_aae02 0 = .ok (.getstatic 38, 3) := by decide +kernel
theorem dJ0_isLatin1_aae02_3 : decode bJ0_isLatin1_aae02 3 = .ok (.ifCond .eq 14, 3) := by decide +kernel
theorem dJ0_isLatin1_aae02_6 : decode bJ0_isLatin1_aae02 6 = .ok (.aload_n 0, 1) := by decide +kernel
theorem dJ0_isLatin1_aae02_7 : decode bJ0_isLatin1_aae02 7 = .ok (.getfield 15, 3) := by decide +kernel
theorem dJ0_isLatin1_aae02_10 : decode bJ0_isLatin1_aae02 10 = .ok (.ifCond .ne 7, 3) := by decide +kernel
theorem dJ0_isLatin1_aae02_13 : decode bJ0_isLatin1_aae02 13 = .ok (.iconst 1, 1) := by decide +kernel
theorem dJ0_isLatin1_aae02_14 : decode bJ0_isLatin1_aae02 14 = .ok (.goto 4, 3) := by decide +kernel
theorem dJ0_isLatin1_aae02_17 : decode bJ0_isLatin1_aae02 17 = .ok (.iconst 0, 1) := by decide +kernel
theorem dJ0_isLatin1_aae02_18 : decode bJ0_isLatin1_aae02 18 = .ok (.ireturn, 1) := by decide +kernel
abbrev bJ0_checkIndex_df160 : ByteArray := prog_18_method_155_code
def yJ0_checkIndex_df160 : MethodName := ⟨"java/lang/String", "checkIndex", "(II)V"⟩
theorem wJ0_checkIndex_df160 : YS yJ0_checkIndex_df160 bJ0_checkIndex_df160 2 none 2 := ⟨LW_i 356 (by decide +kernel) (by decide +kernel), LW_i 116 (by decide +kernel) (by decide +kernel), LW_i 357 (by decide +kernel) (by decide +kernel), by decide +kernel, by decide +kernel⟩
theorem dJ0_checkIndex_df160_0 : decode bJ0_checkIndex_df160 0 = .ok (.iload_n 0, 1) := by decide +kernel
theorem dJ0_checkIndex_df160_1 : decode bJ0_checkIndex_df160 1 = .ok (.iload_n 1, 1) := by decide +kernel
theorem dJ0_checkIndex_df160_2 : decode bJ0_checkIndex_df160 2 = .ok (.getstatic 1053, 3) := by decide +kernel
theorem dJ0_checkIndex_df160_5 : decode bJ0_checkIndex_df160 5 = .ok (.invokestatic 1059, 3) := by decide +kernel
theorem dJ0_checkIndex_df160_8 : decode bJ0_checkIndex_df160 8 = .ok (.pop, 1) := by decide +kernel
theorem dJ0_checkIndex_df160_9 : decode bJ0_checkIndex_df160 9 = .ok (.return_, 1) := by decide +kernel
abbrev bJ1_charAt_3b067 : ByteArray := prog_19_method_2_code
def yJ1_charAt_3b067 : MethodName := ⟨"java/lang/StringLatin1", "charAt", "([BI)C"⟩
theorem wJ1_charAt_3b067 : YS yJ1_charAt_3b067 bJ1_charAt_3b067 2 (some .char) 2 := ⟨LW_i 353 (by decide +kernel) (by decide +kernel), LW_i 117 (by decide +kernel) (by decide +kernel), LW_i 354 (by decide +kernel) (by decide +kernel), by decide +kernel, by decide +kernel⟩
theorem dJ1_charAt_3b067_0 : decode bJ1_charAt_3b067 0 = .ok (.iload_n 1, 1) := by decide +kernel
theorem dJ1_charAt_3b067_1 : decode bJ1_charAt_3b067 1 = .ok (.aload_n 0, 1) := by decide +kernel
theorem dJ1_charAt_3b067_2 : decode bJ1_charAt_3b067 2 = .ok (.arraylength, 1) := by decide +kernel
theorem dJ1_charAt_3b067_3 : decode bJ1_charAt_3b067 3 = .ok (.invokestatic 9, 3) := by decide +kernel
theorem dJ1_charAt_3b067_6 : decode bJ1_charAt_3b067 6 = .ok (.aload_n 0, 1) := by decide +kernel
theorem dJ1_charAt_3b067_7 : decode bJ1_charAt_3b067 7 = .ok (.iload_n 1, 1) := by decide +kernel
theorem dJ1_charAt_3b067_8 : decode bJ1_charAt_3b067 8 = .ok (.baload, 1) := by decide +kernel
theorem dJ1_charAt_3b067_9 : decode bJ1_charAt_3b067 9 = .ok (.sipush 255, 3) := by decide +kernel
theorem dJ1_charAt_3b067_12 : decode bJ1_charAt_3b067 12 = .ok (.iand, 1) := by decide +kernel
theorem dJ1_charAt_3b067_13 : decode bJ1_charAt_3b067 13 = .ok (.i2c, 1) := by decide +kernel
theorem dJ1_charAt_3b067_14 : decode bJ1_charAt_3b067 14 = .ok (.ireturn, 1) := by decide +kernel
abbrev bJ2_getChar_3b067 : ByteArray := prog_20_method_5_code
def yJ2_getChar_3b067 : MethodName := ⟨"java/lang/StringUTF16", "getChar", "([BI)C"⟩
theorem wJ2_getChar_3b067 : YS yJ2_getChar_3b067 bJ2_getChar_3b067 2 (some .char) 2 := ⟨LW_i 374 (by decide +kernel) (by decide +kernel), LW_i 119 (by decide +kernel) (by decide +kernel), LW_i 375 (by decide +kernel) (by decide +kernel), by decide +kernel, by decide +kernel⟩
theorem dJ2_getChar_3b067_0 : decode bJ2_getChar_3b067 0 = .ok (.getstatic 44, 3) := by decide +kernel
theorem dJ2_getChar_3b067_3 : decode bJ2_getChar_3b067 3 = .ok (.ifCond .ne 25, 3) := by decide +kernel
theorem dJ2_getChar_3b067_6 : decode bJ2_getChar_3b067 6 = .ok (.iload_n 1, 1) := by decide +kernel
theorem dJ2_getChar_3b067_7 : decode bJ2_getChar_3b067 7 = .ok (.ifCond .lt 11, 3) := by decide +kernel
theorem dJ2_getChar_3b067_10 : decode bJ2_getChar_3b067 10 = .ok (.iload_n 1, 1) := by decide +kernel
theorem dJ2_getChar_3b067_11 : decode bJ2_getChar_3b067 11 = .ok (.aload_n 0, 1) := by decide +kernel
theorem dJ2_getChar_3b067_12 : decode bJ2_getChar_3b067 12 = .ok (.invokestatic 48, 3) := by decide +kernel
theorem dJ2_getChar_3b067_15 : decode bJ2_getChar_3b067 15 = .ok (.if_icmp .lt 13, 3) := by decide +kernel
theorem dJ2_getChar_3b067_18 : decode bJ2_getChar_3b067 18 = .ok (.new 52, 3) := by decide +kernel
theorem dJ2_getChar_3b067_21 : decode bJ2_getChar_3b067 21 = .ok (.dup, 1) := by decide +kernel
theorem dJ2_getChar_3b067_22 : decode bJ2_getChar_3b067 22 = .ok (.ldc 54, 2) := by decide +kernel
theorem dJ2_getChar_3b067_24 : decode bJ2_getChar_3b067 24 = .ok (.invokespecial 56, 3) := by decide +kernel
theorem dJ2_getChar_3b067_27 : decode bJ2_getChar_3b067 27 = .ok (.athrow, 1) := by decide +kernel
theorem dJ2_getChar_3b067_28 : decode bJ2_getChar_3b067 28 = .ok (.iload_n 1, 1) := by decide +kernel
theorem dJ2_getChar_3b067_29 : decode bJ2_getChar_3b067 29 = .ok (.iconst 1, 1) := by decide +kernel
theorem dJ2_getChar_3b067_30 : decode bJ2_getChar_3b067 30 = .ok (.ishl, 1) := by decide +kernel
theorem dJ2_getChar_3b067_31 : decode bJ2_getChar_3b067 31 = .ok (.istore_n 1, 1) := by decide +kernel
theorem dJ2_getChar_3b067_32 : decode bJ2_getChar_3b067 32 = .ok (.aload_n 0, 1) := by decide +kernel
theorem dJ2_getChar_3b067_33 : decode bJ2_getChar_3b067 33 = .ok (.iload_n 1, 1) := by decide +kernel
theorem dJ2_getChar_3b067_34 : decode bJ2_getChar_3b067 34 = .ok (.iinc 1 1, 3) := by decide +kernel
theorem dJ2_getChar_3b067_37 : decode bJ2_getChar_3b067 37 = .ok (.baload, 1) := by decide +kernel
theorem dJ2_getChar_3b067_38 : decode bJ2_getChar_3b067 38 = .ok (.sipush 255, 3) := by decide +kernel
theorem dJ2_getChar_3b067_41 : decode bJ2_getChar_3b067 41 = .ok (.iand, 1) := by decide +kernel
theorem dJ2_getChar_3b067_42 : decode bJ2_getChar_3b067 42 = .ok (.getstatic 59, 3) := by decide +kernel
theorem dJ2_getChar_3b067_45 : decode bJ2_getChar_3b067 45 = .ok (.ishl, 1) := by decide +kernel
theorem dJ2_getChar_3b067_46 : decode bJ2_getChar_3b067 46 = .ok (.aload_n 0, 1) := by decide +kernel
theorem dJ2_getChar_3b067_47 : decode bJ2_getChar_3b067 47 = .ok (.iload_n 1, 1) := by decide +kernel
theorem dJ2_getChar_3b067_48 : decode bJ2_getChar_3b067 48 = .ok (.baload, 1) := by decide +kernel
theorem dJ2_getChar_3b067_49 : decode bJ2_getChar_3b067 49 = .ok (.sipush 255, 3) := by decide +kernel
theorem dJ2_getChar_3b067_52 : decode bJ2_getChar_3b067 52 = .ok (.iand, 1) := by decide +kernel
theorem dJ2_getChar_3b067_53 : decode bJ2_getChar_3b067 53 = .ok (.getstatic 63, 3) := by decide +kernel
theorem dJ2_getChar_3b067_56 : decode bJ2_getChar_3b067 56 = .ok (.ishl, 1) := by decide +kernel
theorem dJ2_getChar_3b067_57 : decode bJ2_getChar_3b067 57 = .ok (.ior, 1) := by decide +kernel
theorem dJ2_getChar_3b067_58 : decode bJ2_getChar_3b067 58 = .ok (.i2c, 1) := by decide +kernel
theorem dJ2_getChar_3b067_59 : decode bJ2_getChar_3b067 59 = .ok (.ireturn, 1) := by decide +kernel
abbrev bJ2_length_9d52b : ByteArray := prog_20_method_6_code
def yJ2_length_9d52b : MethodName := ⟨"java/lang/StringUTF16", "length", "([B)I"⟩
theorem wJ2_length_9d52b : YS yJ2_length_9d52b bJ2_length_9d52b 1 (some .int) 1 := ⟨LW_i 370 (by decide +kernel) (by decide +kernel), LW_i 119 (by decide +kernel) (by decide +kernel), LW_i 371 (by decide +kernel) (by decide +kernel), by decide +kernel, by decide +kernel⟩
theorem dJ2_length_9d52b_0 : decode bJ2_length_9d52b 0 = .ok (.aload_n 0, 1) := by decide +kernel
theorem dJ2_length_9d52b_1 : decode bJ2_length_9d52b 1 = .ok (.arraylength, 1) := by decide +kernel
theorem dJ2_length_9d52b_2 : decode bJ2_length_9d52b 2 = .ok (.iconst 1, 1) := by decide +kernel
theorem dJ2_length_9d52b_3 : decode bJ2_length_9d52b 3 = .ok (.ishr, 1) := by decide +kernel
theorem dJ2_length_9d52b_4 : decode bJ2_length_9d52b 4 = .ok (.ireturn, 1) := by decide +kernel
abbrev bJ2_charAt_3b067 : ByteArray := prog_20_method_83_code
def yJ2_charAt_3b067 : MethodName := ⟨"java/lang/StringUTF16", "charAt", "([BI)C"⟩
theorem wJ2_charAt_3b067 : YS yJ2_charAt_3b067 bJ2_charAt_3b067 2 (some .char) 2 := ⟨LW_i 364 (by decide +kernel) (by decide +kernel), LW_i 119 (by decide +kernel) (by decide +kernel), LW_i 365 (by decide +kernel) (by decide +kernel), by decide +kernel, by decide +kernel⟩
theorem dJ2_charAt_3b067_0 : decode bJ2_charAt_3b067 0 = .ok (.iload_n 1, 1) := by decide +kernel
theorem dJ2_charAt_3b067_1 : decode bJ2_charAt_3b067 1 = .ok (.aload_n 0, 1) := by decide +kernel
theorem dJ2_charAt_3b067_2 : decode bJ2_charAt_3b067 2 = .ok (.invokestatic 67, 3) := by decide +kernel
theorem dJ2_charAt_3b067_5 : decode bJ2_charAt_3b067 5 = .ok (.aload_n 0, 1) := by decide +kernel
theorem dJ2_charAt_3b067_6 : decode bJ2_charAt_3b067 6 = .ok (.iload_n 1, 1) := by decide +kernel
theorem dJ2_charAt_3b067_7 : decode bJ2_charAt_3b067 7 = .ok (.invokestatic 71, 3) := by decide +kernel
theorem dJ2_charAt_3b067_10 : decode bJ2_charAt_3b067 10 = .ok (.ireturn, 1) := by decide +kernel
abbrev bJ2_checkIndex_2214a : ByteArray := prog_20_method_91_code
def yJ2_checkIndex_2214a : MethodName := ⟨"java/lang/StringUTF16", "checkIndex", "(I[B)V"⟩
theorem wJ2_checkIndex_2214a : YS yJ2_checkIndex_2214a bJ2_checkIndex_2214a 2 none 2 := ⟨LW_i 367 (by decide +kernel) (by decide +kernel), LW_i 119 (by decide +kernel) (by decide +kernel), LW_i 368 (by decide +kernel) (by decide +kernel), by decide +kernel, by decide +kernel⟩
theorem dJ2_checkIndex_2214a_0 : decode bJ2_checkIndex_2214a 0 = .ok (.iload_n 0, 1) := by decide +kernel
theorem dJ2_checkIndex_2214a_1 : decode bJ2_checkIndex_2214a 1 = .ok (.aload_n 1, 1) := by decide +kernel
theorem dJ2_checkIndex_2214a_2 : decode bJ2_checkIndex_2214a 2 = .ok (.invokestatic 48, 3) := by decide +kernel
theorem dJ2_checkIndex_2214a_5 : decode bJ2_checkIndex_2214a 5 = .ok (.invokestatic 414, 3) := by decide +kernel
theorem dJ2_checkIndex_2214a_8 : decode bJ2_checkIndex_2214a 8 = .ok (.return_, 1) := by decide +kernel
abbrev bJ3_checkIndex_8e157 : ByteArray := prog_25_method_11_code
def yJ3_checkIndex_8e157 : MethodName := ⟨"jdk/internal/util/Preconditions", "checkIndex", "(IILjava/util/function/BiFunction;)I"⟩
theorem wJ3_checkIndex_8e157 : YS yJ3_checkIndex_8e157 bJ3_checkIndex_8e157 3 (some .int) 3 := ⟨LW_i 361 (by decide +kernel) (by decide +kernel), LW_i 118 (by decide +kernel) (by decide +kernel), LW_i 362 (by decide +kernel) (by decide +kernel), by decide +kernel, by decide +kernel⟩
theorem dJ3_checkIndex_8e157_0 : decode bJ3_checkIndex_8e157 0 = .ok (.iload_n 0, 1) := by decide +kernel
theorem dJ3_checkIndex_8e157_1 : decode bJ3_checkIndex_8e157 1 = .ok (.ifCond .lt 8, 3) := by decide +kernel
theorem dJ3_checkIndex_8e157_4 : decode bJ3_checkIndex_8e157 4 = .ok (.iload_n 0, 1) := by decide +kernel
theorem dJ3_checkIndex_8e157_5 : decode bJ3_checkIndex_8e157 5 = .ok (.iload_n 1, 1) := by decide +kernel
theorem dJ3_checkIndex_8e157_6 : decode bJ3_checkIndex_8e157 6 = .ok (.if_icmp .lt 10, 3) := by decide +kernel
theorem dJ3_checkIndex_8e157_9 : decode bJ3_checkIndex_8e157 9 = .ok (.aload_n 2, 1) := by decide +kernel
theorem dJ3_checkIndex_8e157_10 : decode bJ3_checkIndex_8e157 10 = .ok (.iload_n 0, 1) := by decide +kernel
theorem dJ3_checkIndex_8e157_11 : decode bJ3_checkIndex_8e157 11 = .ok (.iload_n 1, 1) := by decide +kernel
theorem dJ3_checkIndex_8e157_12 : decode bJ3_checkIndex_8e157 12 = .ok (.invokestatic 95, 3) := by decide +kernel
theorem dJ3_checkIndex_8e157_15 : decode bJ3_checkIndex_8e157 15 = .ok (.athrow, 1) := by decide +kernel
theorem dJ3_checkIndex_8e157_16 : decode bJ3_checkIndex_8e157 16 = .ok (.iload_n 0, 1) := by decide +kernel
theorem dJ3_checkIndex_8e157_17 : decode bJ3_checkIndex_8e157 17 = .ok (.ireturn, 1) := by decide +kernel
theorem lJ0_335 : .methodLink "java/lang/String" 335 ⟨"java/lang/String", "coder", "()B"⟩ ∈ LW := LW_i 338 (by decide +kernel) (by decide +kernel)
theorem lJ0_492 : .methodLink "java/lang/String" 492 ⟨"java/lang/String", "isLatin1", "()Z"⟩ ∈ LW := LW_i 348 (by decide +kernel) (by decide +kernel)
theorem lJ0_495 : .methodLink "java/lang/String" 495 ⟨"java/lang/StringLatin1", "charAt", "([BI)C"⟩ ∈ LW := LW_i 352 (by decide +kernel) (by decide +kernel)
theorem lJ0_498 : .methodLink "java/lang/String" 498 ⟨"java/lang/StringUTF16", "charAt", "([BI)C"⟩ ∈ LW := LW_i 363 (by decide +kernel) (by decide +kernel)
theorem lJ0_1059 : .methodLink "java/lang/String" 1059 ⟨"jdk/internal/util/Preconditions", "checkIndex", "(IILjava/util/function/BiFunction;)I"⟩ ∈ LW := LW_i 360 (by decide +kernel) (by decide +kernel)
theorem lJ1_9 : .methodLink "java/lang/StringLatin1" 9 ⟨"java/lang/String", "checkIndex", "(II)V"⟩ ∈ LW := LW_i 355 (by decide +kernel) (by decide +kernel)
theorem lJ2_48 : .methodLink "java/lang/StringUTF16" 48 ⟨"java/lang/StringUTF16", "length", "([B)I"⟩ ∈ LW := LW_i 369 (by decide +kernel) (by decide +kernel)
theorem lJ2_67 : .methodLink "java/lang/StringUTF16" 67 ⟨"java/lang/StringUTF16", "checkIndex", "(I[B)V"⟩ ∈ LW := LW_i 366 (by decide +kernel) (by decide +kernel)
theorem lJ2_71 : .methodLink "java/lang/StringUTF16" 71 ⟨"java/lang/StringUTF16", "getChar", "([BI)C"⟩ ∈ LW := LW_i 373 (by decide +kernel) (by decide +kernel)
theorem lJ2_414 : .methodLink "java/lang/StringUTF16" 414 ⟨"java/lang/String", "checkIndex", "(II)V"⟩ ∈ LW := LW_i 372 (by decide +kernel) (by decide +kernel)
theorem fJ0_9 : .fieldLink "java/lang/String" 9 "java/lang/String" "value" "[B" ∈ LW := LW_i 1848 (by decide +kernel) (by decide +kernel)
theorem fJ0_15 : .fieldLink "java/lang/String" 15 "java/lang/String" "coder" "B" ∈ LW := LW_i 1849 (by decide +kernel) (by decide +kernel)
theorem fJ0_38 : .fieldLink "java/lang/String" 38 "java/lang/String" "COMPACT_STRINGS" "Z" ∈ LW := LW_i 342 (by decide +kernel) (by decide +kernel)
theorem fJ0_1053 : .fieldLink "java/lang/String" 1053 "jdk/internal/util/Preconditions" "SIOOBE_FORMATTER" "Ljava/util/function/BiFunction;" ∈ LW := LW_i 358 (by decide +kernel) (by decide +kernel)
theorem fJ2_44 : .fieldLink "java/lang/StringUTF16" 44 "java/lang/StringUTF16" "$assertionsDisabled" "Z" ∈ LW := LW_i 376 (by decide +kernel) (by decide +kernel)
theorem fJ2_59 : .fieldLink "java/lang/StringUTF16" 59 "java/lang/StringUTF16" "HI_BYTE_SHIFT" "I" ∈ LW := LW_i 378 (by decide +kernel) (by decide +kernel)
theorem fJ2_63 : .fieldLink "java/lang/StringUTF16" 63 "java/lang/StringUTF16" "LO_BYTE_SHIFT" "I" ∈ LW := LW_i 380 (by decide +kernel) (by decide +kernel)
