/-! names of the class: codes, words, decode rows (printed by names.py) -/
abbrev b0_init : ByteArray := prog_2_method_1_code
def y0_init : MethodName := ⟨"ChannelSchedule$Input", "<init>", "()V"⟩
theorem w0_init : YI y0_init b0_init 1 0 := ⟨LW_i 140 (by decide +kernel) (by decide +kernel), LW_i 111 (by decide +kernel) (by decide +kernel), LW_i 141 (by decide +kernel) (by decide +kernel), by decide +kernel, by decide +kernel, rfl⟩
theorem d0_init_0 : decode b0_init 0 = .ok (.aload_n 0, 1) := by decide +kernel
theorem d0_init_1 : decode b0_init 1 = .ok (.invokespecial 3, 3) := by decide +kernel
theorem d0_init_4 : decode b0_init 4 = .ok (.aload_n 0, 1) := by decide +kernel
theorem d0_init_5 : decode b0_init 5 = .ok (.sipush 600, 3) := by decide +kernel
theorem d0_init_8 : decode b0_init 8 = .ok (.newarray .byte, 2) := by decide +kernel
theorem d0_init_10 : decode b0_init 10 = .ok (.putfield 9, 3) := by decide +kernel
theorem d0_init_13 : decode b0_init 13 = .ok (.aload_n 0, 1) := by decide +kernel
theorem d0_init_14 : decode b0_init 14 = .ok (.iconst 0, 1) := by decide +kernel
theorem d0_init_15 : decode b0_init 15 = .ok (.putfield 15, 3) := by decide +kernel
theorem d0_init_18 : decode b0_init 18 = .ok (.aload_n 0, 1) := by decide +kernel
theorem d0_init_19 : decode b0_init 19 = .ok (.iconst 0, 1) := by decide +kernel
theorem d0_init_20 : decode b0_init 20 = .ok (.putfield 19, 3) := by decide +kernel
theorem d0_init_23 : decode b0_init 23 = .ok (.aload_n 0, 1) := by decide +kernel
theorem d0_init_24 : decode b0_init 24 = .ok (.iconst (-1), 1) := by decide +kernel
theorem d0_init_25 : decode b0_init 25 = .ok (.putfield 22, 3) := by decide +kernel
theorem d0_init_28 : decode b0_init 28 = .ok (.aload_n 0, 1) := by decide +kernel
theorem d0_init_29 : decode b0_init 29 = .ok (.iconst 0, 1) := by decide +kernel
theorem d0_init_30 : decode b0_init 30 = .ok (.putfield 25, 3) := by decide +kernel
theorem d0_init_33 : decode b0_init 33 = .ok (.aload_n 0, 1) := by decide +kernel
theorem d0_init_34 : decode b0_init 34 = .ok (.iconst 0, 1) := by decide +kernel
theorem d0_init_35 : decode b0_init 35 = .ok (.putfield 28, 3) := by decide +kernel
theorem d0_init_38 : decode b0_init 38 = .ok (.aload_n 0, 1) := by decide +kernel
theorem d0_init_39 : decode b0_init 39 = .ok (.iconst 0, 1) := by decide +kernel
theorem d0_init_40 : decode b0_init 40 = .ok (.putfield 31, 3) := by decide +kernel
theorem d0_init_43 : decode b0_init 43 = .ok (.aload_n 0, 1) := by decide +kernel
theorem d0_init_44 : decode b0_init 44 = .ok (.iconst 0, 1) := by decide +kernel
theorem d0_init_45 : decode b0_init 45 = .ok (.putfield 34, 3) := by decide +kernel
theorem d0_init_48 : decode b0_init 48 = .ok (.return_, 1) := by decide +kernel
abbrev b0_putByte : ByteArray := prog_2_method_2_code
def y0_putByte : MethodName := ⟨"ChannelSchedule$Input", "putByte", "(I)V"⟩
theorem w0_putByte : YV y0_putByte b0_putByte 2 none 1 := ⟨LW_i 383 (by decide +kernel) (by decide +kernel), LW_i 384 (by decide +kernel) (by decide +kernel), LW_i 111 (by decide +kernel) (by decide +kernel), LW_i 385 (by decide +kernel) (by decide +kernel), by decide +kernel, by decide +kernel⟩
theorem d0_putByte_0 : decode b0_putByte 0 = .ok (.aload_n 0, 1) := by decide +kernel
theorem d0_putByte_1 : decode b0_putByte 1 = .ok (.getfield 15, 3) := by decide +kernel
theorem d0_putByte_4 : decode b0_putByte 4 = .ok (.aload_n 0, 1) := by decide +kernel
theorem d0_putByte_5 : decode b0_putByte 5 = .ok (.getfield 9, 3) := by decide +kernel
theorem d0_putByte_8 : decode b0_putByte 8 = .ok (.arraylength, 1) := by decide +kernel
theorem d0_putByte_9 : decode b0_putByte 9 = .ok (.if_icmp .ge 24, 3) := by decide +kernel
theorem d0_putByte_12 : decode b0_putByte 12 = .ok (.aload_n 0, 1) := by decide +kernel
theorem d0_putByte_13 : decode b0_putByte 13 = .ok (.getfield 9, 3) := by decide +kernel
theorem d0_putByte_16 : decode b0_putByte 16 = .ok (.aload_n 0, 1) := by decide +kernel
theorem d0_putByte_17 : decode b0_putByte 17 = .ok (.getfield 15, 3) := by decide +kernel
theorem d0_putByte_20 : decode b0_putByte 20 = .ok (.iload_n 1, 1) := by decide +kernel
theorem d0_putByte_21 : decode b0_putByte 21 = .ok (.i2b, 1) := by decide +kernel
theorem d0_putByte_22 : decode b0_putByte 22 = .ok (.bastore, 1) := by decide +kernel
theorem d0_putByte_23 : decode b0_putByte 23 = .ok (.aload_n 0, 1) := by decide +kernel
theorem d0_putByte_24 : decode b0_putByte 24 = .ok (.dup, 1) := by decide +kernel
theorem d0_putByte_25 : decode b0_putByte 25 = .ok (.getfield 15, 3) := by decide +kernel
theorem d0_putByte_28 : decode b0_putByte 28 = .ok (.iconst 1, 1) := by decide +kernel
theorem d0_putByte_29 : decode b0_putByte 29 = .ok (.iadd, 1) := by decide +kernel
theorem d0_putByte_30 : decode b0_putByte 30 = .ok (.putfield 15, 3) := by decide +kernel
theorem d0_putByte_33 : decode b0_putByte 33 = .ok (.return_, 1) := by decide +kernel
abbrev b0_putFour : ByteArray := prog_2_method_3_code
def y0_putFour : MethodName := ⟨"ChannelSchedule$Input", "putFour", "(I)V"⟩
theorem w0_putFour : YV y0_putFour b0_putFour 2 none 1 := ⟨LW_i 729 (by decide +kernel) (by decide +kernel), LW_i 730 (by decide +kernel) (by decide +kernel), LW_i 111 (by decide +kernel) (by decide +kernel), LW_i 731 (by decide +kernel) (by decide +kernel), by decide +kernel, by decide +kernel⟩
theorem d0_putFour_0 : decode b0_putFour 0 = .ok (.aload_n 0, 1) := by decide +kernel
theorem d0_putFour_1 : decode b0_putFour 1 = .ok (.iload_n 1, 1) := by decide +kernel
theorem d0_putFour_2 : decode b0_putFour 2 = .ok (.bipush 24, 2) := by decide +kernel
theorem d0_putFour_4 : decode b0_putFour 4 = .ok (.iushr, 1) := by decide +kernel
theorem d0_putFour_5 : decode b0_putFour 5 = .ok (.invokevirtual 37, 3) := by decide +kernel
theorem d0_putFour_8 : decode b0_putFour 8 = .ok (.aload_n 0, 1) := by decide +kernel
theorem d0_putFour_9 : decode b0_putFour 9 = .ok (.iload_n 1, 1) := by decide +kernel
theorem d0_putFour_10 : decode b0_putFour 10 = .ok (.bipush 16, 2) := by decide +kernel
theorem d0_putFour_12 : decode b0_putFour 12 = .ok (.iushr, 1) := by decide +kernel
theorem d0_putFour_13 : decode b0_putFour 13 = .ok (.invokevirtual 37, 3) := by decide +kernel
theorem d0_putFour_16 : decode b0_putFour 16 = .ok (.aload_n 0, 1) := by decide +kernel
theorem d0_putFour_17 : decode b0_putFour 17 = .ok (.iload_n 1, 1) := by decide +kernel
theorem d0_putFour_18 : decode b0_putFour 18 = .ok (.bipush 8, 2) := by decide +kernel
theorem d0_putFour_20 : decode b0_putFour 20 = .ok (.iushr, 1) := by decide +kernel
theorem d0_putFour_21 : decode b0_putFour 21 = .ok (.invokevirtual 37, 3) := by decide +kernel
theorem d0_putFour_24 : decode b0_putFour 24 = .ok (.aload_n 0, 1) := by decide +kernel
theorem d0_putFour_25 : decode b0_putFour 25 = .ok (.iload_n 1, 1) := by decide +kernel
theorem d0_putFour_26 : decode b0_putFour 26 = .ok (.invokevirtual 37, 3) := by decide +kernel
theorem d0_putFour_29 : decode b0_putFour 29 = .ok (.return_, 1) := by decide +kernel
abbrev b0_startReading : ByteArray := prog_2_method_4_code
def y0_startReading : MethodName := ⟨"ChannelSchedule$Input", "startReading", "()V"⟩
theorem w0_startReading : YV y0_startReading b0_startReading 1 none 0 := ⟨LW_i 391 (by decide +kernel) (by decide +kernel), LW_i 392 (by decide +kernel) (by decide +kernel), LW_i 111 (by decide +kernel) (by decide +kernel), LW_i 393 (by decide +kernel) (by decide +kernel), by decide +kernel, by decide +kernel⟩
theorem d0_startReading_0 : decode b0_startReading 0 = .ok (.aload_n 0, 1) := by decide +kernel
theorem d0_startReading_1 : decode b0_startReading 1 = .ok (.iconst 0, 1) := by decide +kernel
theorem d0_startReading_2 : decode b0_startReading 2 = .ok (.putfield 19, 3) := by decide +kernel
theorem d0_startReading_5 : decode b0_startReading 5 = .ok (.aload_n 0, 1) := by decide +kernel
theorem d0_startReading_6 : decode b0_startReading 6 = .ok (.iconst (-1), 1) := by decide +kernel
theorem d0_startReading_7 : decode b0_startReading 7 = .ok (.putfield 22, 3) := by decide +kernel
theorem d0_startReading_10 : decode b0_startReading 10 = .ok (.aload_n 0, 1) := by decide +kernel
theorem d0_startReading_11 : decode b0_startReading 11 = .ok (.iconst 0, 1) := by decide +kernel
theorem d0_startReading_12 : decode b0_startReading 12 = .ok (.putfield 31, 3) := by decide +kernel
theorem d0_startReading_15 : decode b0_startReading 15 = .ok (.aload_n 0, 1) := by decide +kernel
theorem d0_startReading_16 : decode b0_startReading 16 = .ok (.invokevirtual 41, 3) := by decide +kernel
theorem d0_startReading_19 : decode b0_startReading 19 = .ok (.return_, 1) := by decide +kernel
abbrev b0_readToken : ByteArray := prog_2_method_5_code
def y0_readToken : MethodName := ⟨"ChannelSchedule$Input", "readToken", "()V"⟩
theorem w0_readToken : YV y0_readToken b0_readToken 1 none 0 := ⟨LW_i 395 (by decide +kernel) (by decide +kernel), LW_i 396 (by decide +kernel) (by decide +kernel), LW_i 111 (by decide +kernel) (by decide +kernel), LW_i 397 (by decide +kernel) (by decide +kernel), by decide +kernel, by decide +kernel⟩
theorem d0_readToken_0 : decode b0_readToken 0 = .ok (.aload_n 0, 1) := by decide +kernel
theorem d0_readToken_1 : decode b0_readToken 1 = .ok (.getfield 31, 3) := by decide +kernel
theorem d0_readToken_4 : decode b0_readToken 4 = .ok (.aload_n 0, 1) := by decide +kernel
theorem d0_readToken_5 : decode b0_readToken 5 = .ok (.getfield 15, 3) := by decide +kernel
theorem d0_readToken_8 : decode b0_readToken 8 = .ok (.if_icmp .ge 32, 3) := by decide +kernel
theorem d0_readToken_11 : decode b0_readToken 11 = .ok (.aload_n 0, 1) := by decide +kernel
theorem d0_readToken_12 : decode b0_readToken 12 = .ok (.getfield 9, 3) := by decide +kernel
theorem d0_readToken_15 : decode b0_readToken 15 = .ok (.aload_n 0, 1) := by decide +kernel
theorem d0_readToken_16 : decode b0_readToken 16 = .ok (.getfield 31, 3) := by decide +kernel
theorem d0_readToken_19 : decode b0_readToken 19 = .ok (.baload, 1) := by decide +kernel
theorem d0_readToken_20 : decode b0_readToken 20 = .ok (.invokestatic 44, 3) := by decide +kernel
theorem d0_readToken_23 : decode b0_readToken 23 = .ok (.iconst 5, 1) := by decide +kernel
theorem d0_readToken_24 : decode b0_readToken 24 = .ok (.if_icmp .ne 16, 3) := by decide +kernel
theorem d0_readToken_27 : decode b0_readToken 27 = .ok (.aload_n 0, 1) := by decide +kernel
theorem d0_readToken_28 : decode b0_readToken 28 = .ok (.dup, 1) := by decide +kernel
theorem d0_readToken_29 : decode b0_readToken 29 = .ok (.getfield 31, 3) := by decide +kernel
theorem d0_readToken_32 : decode b0_readToken 32 = .ok (.iconst 1, 1) := by decide +kernel
theorem d0_readToken_33 : decode b0_readToken 33 = .ok (.iadd, 1) := by decide +kernel
theorem d0_readToken_34 : decode b0_readToken 34 = .ok (.putfield 31, 3) := by decide +kernel
theorem d0_readToken_37 : decode b0_readToken 37 = .ok (.goto (-37), 3) := by decide +kernel
theorem d0_readToken_40 : decode b0_readToken 40 = .ok (.aload_n 0, 1) := by decide +kernel
theorem d0_readToken_41 : decode b0_readToken 41 = .ok (.aload_n 0, 1) := by decide +kernel
theorem d0_readToken_42 : decode b0_readToken 42 = .ok (.getfield 31, 3) := by decide +kernel
theorem d0_readToken_45 : decode b0_readToken 45 = .ok (.putfield 28, 3) := by decide +kernel
theorem d0_readToken_48 : decode b0_readToken 48 = .ok (.aload_n 0, 1) := by decide +kernel
theorem d0_readToken_49 : decode b0_readToken 49 = .ok (.getfield 31, 3) := by decide +kernel
theorem d0_readToken_52 : decode b0_readToken 52 = .ok (.aload_n 0, 1) := by decide +kernel
theorem d0_readToken_53 : decode b0_readToken 53 = .ok (.getfield 15, 3) := by decide +kernel
theorem d0_readToken_56 : decode b0_readToken 56 = .ok (.if_icmp .lt 9, 3) := by decide +kernel
theorem d0_readToken_59 : decode b0_readToken 59 = .ok (.aload_n 0, 1) := by decide +kernel
theorem d0_readToken_60 : decode b0_readToken 60 = .ok (.iconst 0, 1) := by decide +kernel
theorem d0_readToken_61 : decode b0_readToken 61 = .ok (.putfield 25, 3) := by decide +kernel
theorem d0_readToken_64 : decode b0_readToken 64 = .ok (.return_, 1) := by decide +kernel
theorem d0_readToken_65 : decode b0_readToken 65 = .ok (.aload_n 0, 1) := by decide +kernel
theorem d0_readToken_66 : decode b0_readToken 66 = .ok (.aload_n 0, 1) := by decide +kernel
theorem d0_readToken_67 : decode b0_readToken 67 = .ok (.getfield 9, 3) := by decide +kernel
theorem d0_readToken_70 : decode b0_readToken 70 = .ok (.aload_n 0, 1) := by decide +kernel
theorem d0_readToken_71 : decode b0_readToken 71 = .ok (.getfield 31, 3) := by decide +kernel
theorem d0_readToken_74 : decode b0_readToken 74 = .ok (.baload, 1) := by decide +kernel
theorem d0_readToken_75 : decode b0_readToken 75 = .ok (.invokestatic 44, 3) := by decide +kernel
theorem d0_readToken_78 : decode b0_readToken 78 = .ok (.putfield 25, 3) := by decide +kernel
theorem d0_readToken_81 : decode b0_readToken 81 = .ok (.aload_n 0, 1) := by decide +kernel
theorem d0_readToken_82 : decode b0_readToken 82 = .ok (.dup, 1) := by decide +kernel
theorem d0_readToken_83 : decode b0_readToken 83 = .ok (.getfield 31, 3) := by decide +kernel
theorem d0_readToken_86 : decode b0_readToken 86 = .ok (.iconst 1, 1) := by decide +kernel
theorem d0_readToken_87 : decode b0_readToken 87 = .ok (.iadd, 1) := by decide +kernel
theorem d0_readToken_88 : decode b0_readToken 88 = .ok (.putfield 31, 3) := by decide +kernel
theorem d0_readToken_91 : decode b0_readToken 91 = .ok (.aload_n 0, 1) := by decide +kernel
theorem d0_readToken_92 : decode b0_readToken 92 = .ok (.getfield 25, 3) := by decide +kernel
theorem d0_readToken_95 : decode b0_readToken 95 = .ok (.iconst 1, 1) := by decide +kernel
theorem d0_readToken_96 : decode b0_readToken 96 = .ok (.if_icmp .eq 11, 3) := by decide +kernel
theorem d0_readToken_99 : decode b0_readToken 99 = .ok (.aload_n 0, 1) := by decide +kernel
theorem d0_readToken_100 : decode b0_readToken 100 = .ok (.getfield 25, 3) := by decide +kernel
theorem d0_readToken_103 : decode b0_readToken 103 = .ok (.iconst 2, 1) := by decide +kernel
theorem d0_readToken_104 : decode b0_readToken 104 = .ok (.if_icmp .ne 7, 3) := by decide +kernel
theorem d0_readToken_107 : decode b0_readToken 107 = .ok (.aload_n 0, 1) := by decide +kernel
theorem d0_readToken_108 : decode b0_readToken 108 = .ok (.invokevirtual 48, 3) := by decide +kernel
theorem d0_readToken_111 : decode b0_readToken 111 = .ok (.return_, 1) := by decide +kernel
abbrev b0_readRun : ByteArray := prog_2_method_6_code
def y0_readRun : MethodName := ⟨"ChannelSchedule$Input", "readRun", "()V"⟩
theorem w0_readRun : YV y0_readRun b0_readRun 2 none 0 := ⟨LW_i 402 (by decide +kernel) (by decide +kernel), LW_i 403 (by decide +kernel) (by decide +kernel), LW_i 111 (by decide +kernel) (by decide +kernel), LW_i 404 (by decide +kernel) (by decide +kernel), by decide +kernel, by decide +kernel⟩
theorem d0_readRun_0 : decode b0_readRun 0 = .ok (.aload_n 0, 1) := by decide +kernel
theorem d0_readRun_1 : decode b0_readRun 1 = .ok (.getfield 31, 3) := by decide +kernel
theorem d0_readRun_4 : decode b0_readRun 4 = .ok (.aload_n 0, 1) := by decide +kernel
theorem d0_readRun_5 : decode b0_readRun 5 = .ok (.getfield 15, 3) := by decide +kernel
theorem d0_readRun_8 : decode b0_readRun 8 = .ok (.if_icmp .ge 35, 3) := by decide +kernel
theorem d0_readRun_11 : decode b0_readRun 11 = .ok (.aload_n 0, 1) := by decide +kernel
theorem d0_readRun_12 : decode b0_readRun 12 = .ok (.getfield 9, 3) := by decide +kernel
theorem d0_readRun_15 : decode b0_readRun 15 = .ok (.aload_n 0, 1) := by decide +kernel
theorem d0_readRun_16 : decode b0_readRun 16 = .ok (.getfield 31, 3) := by decide +kernel
theorem d0_readRun_19 : decode b0_readRun 19 = .ok (.baload, 1) := by decide +kernel
theorem d0_readRun_20 : decode b0_readRun 20 = .ok (.invokestatic 44, 3) := by decide +kernel
theorem d0_readRun_23 : decode b0_readRun 23 = .ok (.aload_n 0, 1) := by decide +kernel
theorem d0_readRun_24 : decode b0_readRun 24 = .ok (.getfield 25, 3) := by decide +kernel
theorem d0_readRun_27 : decode b0_readRun 27 = .ok (.if_icmp .ne 16, 3) := by decide +kernel
theorem d0_readRun_30 : decode b0_readRun 30 = .ok (.aload_n 0, 1) := by decide +kernel
theorem d0_readRun_31 : decode b0_readRun 31 = .ok (.dup, 1) := by decide +kernel
theorem d0_readRun_32 : decode b0_readRun 32 = .ok (.getfield 31, 3) := by decide +kernel
theorem d0_readRun_35 : decode b0_readRun 35 = .ok (.iconst 1, 1) := by decide +kernel
theorem d0_readRun_36 : decode b0_readRun 36 = .ok (.iadd, 1) := by decide +kernel
theorem d0_readRun_37 : decode b0_readRun 37 = .ok (.putfield 31, 3) := by decide +kernel
theorem d0_readRun_40 : decode b0_readRun 40 = .ok (.goto (-40), 3) := by decide +kernel
theorem d0_readRun_43 : decode b0_readRun 43 = .ok (.aload_n 0, 1) := by decide +kernel
theorem d0_readRun_44 : decode b0_readRun 44 = .ok (.getfield 25, 3) := by decide +kernel
theorem d0_readRun_47 : decode b0_readRun 47 = .ok (.iconst 1, 1) := by decide +kernel
theorem d0_readRun_48 : decode b0_readRun 48 = .ok (.if_icmp .ne 8, 3) := by decide +kernel
theorem d0_readRun_51 : decode b0_readRun 51 = .ok (.bipush 8, 2) := by decide +kernel
theorem d0_readRun_53 : decode b0_readRun 53 = .ok (.goto 4, 3) := by decide +kernel
theorem d0_readRun_56 : decode b0_readRun 56 = .ok (.iconst 4, 1) := by decide +kernel
theorem d0_readRun_57 : decode b0_readRun 57 = .ok (.istore_n 1, 1) := by decide +kernel
theorem d0_readRun_58 : decode b0_readRun 58 = .ok (.aload_n 0, 1) := by decide +kernel
theorem d0_readRun_59 : decode b0_readRun 59 = .ok (.getfield 31, 3) := by decide +kernel
theorem d0_readRun_62 : decode b0_readRun 62 = .ok (.aload_n 0, 1) := by decide +kernel
theorem d0_readRun_63 : decode b0_readRun 63 = .ok (.getfield 28, 3) := by decide +kernel
theorem d0_readRun_66 : decode b0_readRun 66 = .ok (.isub, 1) := by decide +kernel
theorem d0_readRun_67 : decode b0_readRun 67 = .ok (.iload_n 1, 1) := by decide +kernel
theorem d0_readRun_68 : decode b0_readRun 68 = .ok (.if_icmp .le 8, 3) := by decide +kernel
theorem d0_readRun_71 : decode b0_readRun 71 = .ok (.aload_n 0, 1) := by decide +kernel
theorem d0_readRun_72 : decode b0_readRun 72 = .ok (.iconst 4, 1) := by decide +kernel
theorem d0_readRun_73 : decode b0_readRun 73 = .ok (.putfield 25, 3) := by decide +kernel
theorem d0_readRun_76 : decode b0_readRun 76 = .ok (.return_, 1) := by decide +kernel
abbrev b0_kindOf : ByteArray := prog_2_method_7_code
def y0_kindOf : MethodName := ⟨"ChannelSchedule$Input", "kindOf", "(I)I"⟩
theorem w0_kindOf : YS y0_kindOf b0_kindOf 1 (some .int) 1 := ⟨LW_i 399 (by decide +kernel) (by decide +kernel), LW_i 111 (by decide +kernel) (by decide +kernel), LW_i 400 (by decide +kernel) (by decide +kernel), by decide +kernel, by decide +kernel⟩
theorem d0_kindOf_0 : decode b0_kindOf 0 = .ok (.iload_n 0, 1) := by decide +kernel
theorem d0_kindOf_1 : decode b0_kindOf 1 = .ok (.bipush 97, 2) := by decide +kernel
theorem d0_kindOf_3 : decode b0_kindOf 3 = .ok (.if_icmp .lt 11, 3) := by decide +kernel
theorem d0_kindOf_6 : decode b0_kindOf 6 = .ok (.iload_n 0, 1) := by decide +kernel
theorem d0_kindOf_7 : decode b0_kindOf 7 = .ok (.bipush 122, 2) := by decide +kernel
theorem d0_kindOf_9 : decode b0_kindOf 9 = .ok (.if_icmp .gt 5, 3) := by decide +kernel
theorem d0_kindOf_12 : decode b0_kindOf 12 = .ok (.iconst 1, 1) := by decide +kernel
theorem d0_kindOf_13 : decode b0_kindOf 13 = .ok (.ireturn, 1) := by decide +kernel
theorem d0_kindOf_14 : decode b0_kindOf 14 = .ok (.iload_n 0, 1) := by decide +kernel
theorem d0_kindOf_15 : decode b0_kindOf 15 = .ok (.bipush 48, 2) := by decide +kernel
theorem d0_kindOf_17 : decode b0_kindOf 17 = .ok (.if_icmp .lt 11, 3) := by decide +kernel
theorem d0_kindOf_20 : decode b0_kindOf 20 = .ok (.iload_n 0, 1) := by decide +kernel
theorem d0_kindOf_21 : decode b0_kindOf 21 = .ok (.bipush 57, 2) := by decide +kernel
theorem d0_kindOf_23 : decode b0_kindOf 23 = .ok (.if_icmp .gt 5, 3) := by decide +kernel
theorem d0_kindOf_26 : decode b0_kindOf 26 = .ok (.iconst 2, 1) := by decide +kernel
theorem d0_kindOf_27 : decode b0_kindOf 27 = .ok (.ireturn, 1) := by decide +kernel
theorem d0_kindOf_28 : decode b0_kindOf 28 = .ok (.iload_n 0, 1) := by decide +kernel
theorem d0_kindOf_29 : decode b0_kindOf 29 = .ok (.bipush 59, 2) := by decide +kernel
theorem d0_kindOf_31 : decode b0_kindOf 31 = .ok (.if_icmp .ne 5, 3) := by decide +kernel
theorem d0_kindOf_34 : decode b0_kindOf 34 = .ok (.iconst 3, 1) := by decide +kernel
theorem d0_kindOf_35 : decode b0_kindOf 35 = .ok (.ireturn, 1) := by decide +kernel
theorem d0_kindOf_36 : decode b0_kindOf 36 = .ok (.iload_n 0, 1) := by decide +kernel
theorem d0_kindOf_37 : decode b0_kindOf 37 = .ok (.bipush 32, 2) := by decide +kernel
theorem d0_kindOf_39 : decode b0_kindOf 39 = .ok (.if_icmp .eq 9, 3) := by decide +kernel
theorem d0_kindOf_42 : decode b0_kindOf 42 = .ok (.iload_n 0, 1) := by decide +kernel
theorem d0_kindOf_43 : decode b0_kindOf 43 = .ok (.bipush 10, 2) := by decide +kernel
theorem d0_kindOf_45 : decode b0_kindOf 45 = .ok (.if_icmp .ne 7, 3) := by decide +kernel
theorem d0_kindOf_48 : decode b0_kindOf 48 = .ok (.iconst 5, 1) := by decide +kernel
theorem d0_kindOf_49 : decode b0_kindOf 49 = .ok (.goto 4, 3) := by decide +kernel
theorem d0_kindOf_52 : decode b0_kindOf 52 = .ok (.iconst 4, 1) := by decide +kernel
theorem d0_kindOf_53 : decode b0_kindOf 53 = .ok (.ireturn, 1) := by decide +kernel
abbrev b0_fail : ByteArray := prog_2_method_8_code
def y0_fail : MethodName := ⟨"ChannelSchedule$Input", "fail", "(I)Z"⟩
theorem w0_fail : YV y0_fail b0_fail 2 (some .boolean) 1 := ⟨LW_i 421 (by decide +kernel) (by decide +kernel), LW_i 422 (by decide +kernel) (by decide +kernel), LW_i 111 (by decide +kernel) (by decide +kernel), LW_i 423 (by decide +kernel) (by decide +kernel), by decide +kernel, by decide +kernel⟩
theorem d0_fail_0 : decode b0_fail 0 = .ok (.aload_n 0, 1) := by decide +kernel
theorem d0_fail_1 : decode b0_fail 1 = .ok (.iload_n 1, 1) := by decide +kernel
theorem d0_fail_2 : decode b0_fail 2 = .ok (.putfield 19, 3) := by decide +kernel
theorem d0_fail_5 : decode b0_fail 5 = .ok (.aload_n 0, 1) := by decide +kernel
theorem d0_fail_6 : decode b0_fail 6 = .ok (.aload_n 0, 1) := by decide +kernel
theorem d0_fail_7 : decode b0_fail 7 = .ok (.getfield 28, 3) := by decide +kernel
theorem d0_fail_10 : decode b0_fail 10 = .ok (.putfield 22, 3) := by decide +kernel
theorem d0_fail_13 : decode b0_fail 13 = .ok (.iconst 0, 1) := by decide +kernel
theorem d0_fail_14 : decode b0_fail 14 = .ok (.ireturn, 1) := by decide +kernel
abbrev b0_isWord : ByteArray := prog_2_method_9_code
def y0_isWord : MethodName := ⟨"ChannelSchedule$Input", "isWord", "(Ljava/lang/String;)Z"⟩
theorem w0_isWord : YV y0_isWord b0_isWord 3 (some .boolean) 1 := ⟨LW_i 415 (by decide +kernel) (by decide +kernel), LW_i 416 (by decide +kernel) (by decide +kernel), LW_i 111 (by decide +kernel) (by decide +kernel), LW_i 417 (by decide +kernel) (by decide +kernel), by decide +kernel, by decide +kernel⟩
theorem d0_isWord_0 : decode b0_isWord 0 = .ok (.aload_n 0, 1) := by decide +kernel
theorem d0_isWord_1 : decode b0_isWord 1 = .ok (.getfield 25, 3) := by decide +kernel
theorem d0_isWord_4 : decode b0_isWord 4 = .ok (.iconst 1, 1) := by decide +kernel
theorem d0_isWord_5 : decode b0_isWord 5 = .ok (.if_icmp .ne 19, 3) := by decide +kernel
theorem d0_isWord_8 : decode b0_isWord 8 = .ok (.aload_n 0, 1) := by decide +kernel
theorem d0_isWord_9 : decode b0_isWord 9 = .ok (.getfield 31, 3) := by decide +kernel
theorem d0_isWord_12 : decode b0_isWord 12 = .ok (.aload_n 0, 1) := by decide +kernel
theorem d0_isWord_13 : decode b0_isWord 13 = .ok (.getfield 28, 3) := by decide +kernel
theorem d0_isWord_16 : decode b0_isWord 16 = .ok (.isub, 1) := by decide +kernel
theorem d0_isWord_17 : decode b0_isWord 17 = .ok (.aload_n 1, 1) := by decide +kernel
theorem d0_isWord_18 : decode b0_isWord 18 = .ok (.invokevirtual 51, 3) := by decide +kernel
theorem d0_isWord_21 : decode b0_isWord 21 = .ok (.if_icmp .eq 5, 3) := by decide +kernel
theorem d0_isWord_24 : decode b0_isWord 24 = .ok (.iconst 0, 1) := by decide +kernel
theorem d0_isWord_25 : decode b0_isWord 25 = .ok (.ireturn, 1) := by decide +kernel
theorem d0_isWord_26 : decode b0_isWord 26 = .ok (.iconst 0, 1) := by decide +kernel
theorem d0_isWord_27 : decode b0_isWord 27 = .ok (.istore_n 2, 1) := by decide +kernel
theorem d0_isWord_28 : decode b0_isWord 28 = .ok (.iload_n 2, 1) := by decide +kernel
theorem d0_isWord_29 : decode b0_isWord 29 = .ok (.aload_n 1, 1) := by decide +kernel
theorem d0_isWord_30 : decode b0_isWord 30 = .ok (.invokevirtual 51, 3) := by decide +kernel
theorem d0_isWord_33 : decode b0_isWord 33 = .ok (.if_icmp .ge 30, 3) := by decide +kernel
theorem d0_isWord_36 : decode b0_isWord 36 = .ok (.aload_n 0, 1) := by decide +kernel
theorem d0_isWord_37 : decode b0_isWord 37 = .ok (.getfield 9, 3) := by decide +kernel
theorem d0_isWord_40 : decode b0_isWord 40 = .ok (.aload_n 0, 1) := by decide +kernel
theorem d0_isWord_41 : decode b0_isWord 41 = .ok (.getfield 28, 3) := by decide +kernel
theorem d0_isWord_44 : decode b0_isWord 44 = .ok (.iload_n 2, 1) := by decide +kernel
theorem d0_isWord_45 : decode b0_isWord 45 = .ok (.iadd, 1) := by decide +kernel
theorem d0_isWord_46 : decode b0_isWord 46 = .ok (.baload, 1) := by decide +kernel
theorem d0_isWord_47 : decode b0_isWord 47 = .ok (.aload_n 1, 1) := by decide +kernel
theorem d0_isWord_48 : decode b0_isWord 48 = .ok (.iload_n 2, 1) := by decide +kernel
theorem d0_isWord_49 : decode b0_isWord 49 = .ok (.invokevirtual 56, 3) := by decide +kernel
theorem d0_isWord_52 : decode b0_isWord 52 = .ok (.if_icmp .eq 5, 3) := by decide +kernel
theorem d0_isWord_55 : decode b0_isWord 55 = .ok (.iconst 0, 1) := by decide +kernel
theorem d0_isWord_56 : decode b0_isWord 56 = .ok (.ireturn, 1) := by decide +kernel
theorem d0_isWord_57 : decode b0_isWord 57 = .ok (.iinc 2 1, 3) := by decide +kernel
theorem d0_isWord_60 : decode b0_isWord 60 = .ok (.goto (-32), 3) := by decide +kernel
theorem d0_isWord_63 : decode b0_isWord 63 = .ok (.iconst 1, 1) := by decide +kernel
theorem d0_isWord_64 : decode b0_isWord 64 = .ok (.ireturn, 1) := by decide +kernel
abbrev b0_takeWord : ByteArray := prog_2_method_10_code
def y0_takeWord : MethodName := ⟨"ChannelSchedule$Input", "takeWord", "(Ljava/lang/String;)Z"⟩
theorem w0_takeWord : YV y0_takeWord b0_takeWord 2 (some .boolean) 1 := ⟨LW_i 411 (by decide +kernel) (by decide +kernel), LW_i 412 (by decide +kernel) (by decide +kernel), LW_i 111 (by decide +kernel) (by decide +kernel), LW_i 413 (by decide +kernel) (by decide +kernel), by decide +kernel, by decide +kernel⟩
theorem d0_takeWord_0 : decode b0_takeWord 0 = .ok (.aload_n 0, 1) := by decide +kernel
theorem d0_takeWord_1 : decode b0_takeWord 1 = .ok (.aload_n 1, 1) := by decide +kernel
theorem d0_takeWord_2 : decode b0_takeWord 2 = .ok (.invokevirtual 60, 3) := by decide +kernel
theorem d0_takeWord_5 : decode b0_takeWord 5 = .ok (.ifCond .ne 9, 3) := by decide +kernel
theorem d0_takeWord_8 : decode b0_takeWord 8 = .ok (.aload_n 0, 1) := by decide +kernel
theorem d0_takeWord_9 : decode b0_takeWord 9 = .ok (.iconst 1, 1) := by decide +kernel
theorem d0_takeWord_10 : decode b0_takeWord 10 = .ok (.invokevirtual 64, 3) := by decide +kernel
theorem d0_takeWord_13 : decode b0_takeWord 13 = .ok (.ireturn, 1) := by decide +kernel
theorem d0_takeWord_14 : decode b0_takeWord 14 = .ok (.aload_n 0, 1) := by decide +kernel
theorem d0_takeWord_15 : decode b0_takeWord 15 = .ok (.invokevirtual 41, 3) := by decide +kernel
theorem d0_takeWord_18 : decode b0_takeWord 18 = .ok (.iconst 1, 1) := by decide +kernel
theorem d0_takeWord_19 : decode b0_takeWord 19 = .ok (.ireturn, 1) := by decide +kernel
abbrev b0_takeSemicolon : ByteArray := prog_2_method_11_code
def y0_takeSemicolon : MethodName := ⟨"ChannelSchedule$Input", "takeSemicolon", "()Z"⟩
theorem w0_takeSemicolon : YV y0_takeSemicolon b0_takeSemicolon 1 (some .boolean) 0 := ⟨LW_i 429 (by decide +kernel) (by decide +kernel), LW_i 430 (by decide +kernel) (by decide +kernel), LW_i 111 (by decide +kernel) (by decide +kernel), LW_i 431 (by decide +kernel) (by decide +kernel), by decide +kernel, by decide +kernel⟩
theorem d0_takeSemicolon_0 : decode b0_takeSemicolon 0 = .ok (.aload_n 0, 1) := by decide +kernel
theorem d0_takeSemicolon_1 : decode b0_takeSemicolon 1 = .ok (.getfield 25, 3) := by decide +kernel
theorem d0_takeSemicolon_4 : decode b0_takeSemicolon 4 = .ok (.iconst 3, 1) := by decide +kernel
theorem d0_takeSemicolon_5 : decode b0_takeSemicolon 5 = .ok (.if_icmp .eq 9, 3) := by decide +kernel
theorem d0_takeSemicolon_8 : decode b0_takeSemicolon 8 = .ok (.aload_n 0, 1) := by decide +kernel
theorem d0_takeSemicolon_9 : decode b0_takeSemicolon 9 = .ok (.iconst 1, 1) := by decide +kernel
theorem d0_takeSemicolon_10 : decode b0_takeSemicolon 10 = .ok (.invokevirtual 64, 3) := by decide +kernel
theorem d0_takeSemicolon_13 : decode b0_takeSemicolon 13 = .ok (.ireturn, 1) := by decide +kernel
theorem d0_takeSemicolon_14 : decode b0_takeSemicolon 14 = .ok (.aload_n 0, 1) := by decide +kernel
theorem d0_takeSemicolon_15 : decode b0_takeSemicolon 15 = .ok (.invokevirtual 41, 3) := by decide +kernel
theorem d0_takeSemicolon_18 : decode b0_takeSemicolon 18 = .ok (.iconst 1, 1) := by decide +kernel
theorem d0_takeSemicolon_19 : decode b0_takeSemicolon 19 = .ok (.ireturn, 1) := by decide +kernel
abbrev b0_takeNumber : ByteArray := prog_2_method_12_code
def y0_takeNumber : MethodName := ⟨"ChannelSchedule$Input", "takeNumber", "(II)Z"⟩
theorem w0_takeNumber : YV y0_takeNumber b0_takeNumber 4 (some .boolean) 2 := ⟨LW_i 425 (by decide +kernel) (by decide +kernel), LW_i 426 (by decide +kernel) (by decide +kernel), LW_i 111 (by decide +kernel) (by decide +kernel), LW_i 427 (by decide +kernel) (by decide +kernel), by decide +kernel, by decide +kernel⟩
theorem d0_takeNumber_0 : decode b0_takeNumber 0 = .ok (.aload_n 0, 1) := by decide +kernel
theorem d0_takeNumber_1 : decode b0_takeNumber 1 = .ok (.getfield 25, 3) := by decide +kernel
theorem d0_takeNumber_4 : decode b0_takeNumber 4 = .ok (.iconst 2, 1) := by decide +kernel
theorem d0_takeNumber_5 : decode b0_takeNumber 5 = .ok (.if_icmp .eq 9, 3) := by decide +kernel
theorem d0_takeNumber_8 : decode b0_takeNumber 8 = .ok (.aload_n 0, 1) := by decide +kernel
theorem d0_takeNumber_9 : decode b0_takeNumber 9 = .ok (.iconst 1, 1) := by decide +kernel
theorem d0_takeNumber_10 : decode b0_takeNumber 10 = .ok (.invokevirtual 64, 3) := by decide +kernel
theorem d0_takeNumber_13 : decode b0_takeNumber 13 = .ok (.ireturn, 1) := by decide +kernel
theorem d0_takeNumber_14 : decode b0_takeNumber 14 = .ok (.aload_n 0, 1) := by decide +kernel
theorem d0_takeNumber_15 : decode b0_takeNumber 15 = .ok (.iconst 0, 1) := by decide +kernel
theorem d0_takeNumber_16 : decode b0_takeNumber 16 = .ok (.putfield 34, 3) := by decide +kernel
theorem d0_takeNumber_19 : decode b0_takeNumber 19 = .ok (.aload_n 0, 1) := by decide +kernel
theorem d0_takeNumber_20 : decode b0_takeNumber 20 = .ok (.getfield 28, 3) := by decide +kernel
theorem d0_takeNumber_23 : decode b0_takeNumber 23 = .ok (.istore_n 3, 1) := by decide +kernel
theorem d0_takeNumber_24 : decode b0_takeNumber 24 = .ok (.iload_n 3, 1) := by decide +kernel
theorem d0_takeNumber_25 : decode b0_takeNumber 25 = .ok (.aload_n 0, 1) := by decide +kernel
theorem d0_takeNumber_26 : decode b0_takeNumber 26 = .ok (.getfield 31, 3) := by decide +kernel
theorem d0_takeNumber_29 : decode b0_takeNumber 29 = .ok (.if_icmp .ge 30, 3) := by decide +kernel
theorem d0_takeNumber_32 : decode b0_takeNumber 32 = .ok (.aload_n 0, 1) := by decide +kernel
theorem d0_takeNumber_33 : decode b0_takeNumber 33 = .ok (.aload_n 0, 1) := by decide +kernel
theorem d0_takeNumber_34 : decode b0_takeNumber 34 = .ok (.getfield 34, 3) := by decide +kernel
theorem d0_takeNumber_37 : decode b0_takeNumber 37 = .ok (.bipush 10, 2) := by decide +kernel
theorem d0_takeNumber_39 : decode b0_takeNumber 39 = .ok (.imul, 1) := by decide +kernel
theorem d0_takeNumber_40 : decode b0_takeNumber 40 = .ok (.aload_n 0, 1) := by decide +kernel
theorem d0_takeNumber_41 : decode b0_takeNumber 41 = .ok (.getfield 9, 3) := by decide +kernel
theorem d0_takeNumber_44 : decode b0_takeNumber 44 = .ok (.iload_n 3, 1) := by decide +kernel
theorem d0_takeNumber_45 : decode b0_takeNumber 45 = .ok (.baload, 1) := by decide +kernel
theorem d0_takeNumber_46 : decode b0_takeNumber 46 = .ok (.bipush 48, 2) := by decide +kernel
theorem d0_takeNumber_48 : decode b0_takeNumber 48 = .ok (.isub, 1) := by decide +kernel
theorem d0_takeNumber_49 : decode b0_takeNumber 49 = .ok (.iadd, 1) := by decide +kernel
theorem d0_takeNumber_50 : decode b0_takeNumber 50 = .ok (.putfield 34, 3) := by decide +kernel
theorem d0_takeNumber_53 : decode b0_takeNumber 53 = .ok (.iinc 3 1, 3) := by decide +kernel
theorem d0_takeNumber_56 : decode b0_takeNumber 56 = .ok (.goto (-32), 3) := by decide +kernel
theorem d0_takeNumber_59 : decode b0_takeNumber 59 = .ok (.aload_n 0, 1) := by decide +kernel
theorem d0_takeNumber_60 : decode b0_takeNumber 60 = .ok (.getfield 34, 3) := by decide +kernel
theorem d0_takeNumber_63 : decode b0_takeNumber 63 = .ok (.iload_n 1, 1) := by decide +kernel
theorem d0_takeNumber_64 : decode b0_takeNumber 64 = .ok (.if_icmp .lt 11, 3) := by decide +kernel
theorem d0_takeNumber_67 : decode b0_takeNumber 67 = .ok (.aload_n 0, 1) := by decide +kernel
theorem d0_takeNumber_68 : decode b0_takeNumber 68 = .ok (.getfield 34, 3) := by decide +kernel
theorem d0_takeNumber_71 : decode b0_takeNumber 71 = .ok (.iload_n 2, 1) := by decide +kernel
theorem d0_takeNumber_72 : decode b0_takeNumber 72 = .ok (.if_icmp .le 9, 3) := by decide +kernel
theorem d0_takeNumber_75 : decode b0_takeNumber 75 = .ok (.aload_n 0, 1) := by decide +kernel
theorem d0_takeNumber_76 : decode b0_takeNumber 76 = .ok (.iconst 2, 1) := by decide +kernel
theorem d0_takeNumber_77 : decode b0_takeNumber 77 = .ok (.invokevirtual 64, 3) := by decide +kernel
theorem d0_takeNumber_80 : decode b0_takeNumber 80 = .ok (.ireturn, 1) := by decide +kernel
theorem d0_takeNumber_81 : decode b0_takeNumber 81 = .ok (.aload_n 0, 1) := by decide +kernel
theorem d0_takeNumber_82 : decode b0_takeNumber 82 = .ok (.invokevirtual 41, 3) := by decide +kernel
theorem d0_takeNumber_85 : decode b0_takeNumber 85 = .ok (.iconst 1, 1) := by decide +kernel
theorem d0_takeNumber_86 : decode b0_takeNumber 86 = .ok (.ireturn, 1) := by decide +kernel
abbrev b1_init : ByteArray := prog_3_method_1_code
def y1_init : MethodName := ⟨"ChannelSchedule$Plan", "<init>", "()V"⟩
theorem w1_init : YI y1_init b1_init 1 0 := ⟨LW_i 268 (by decide +kernel) (by decide +kernel), LW_i 115 (by decide +kernel) (by decide +kernel), LW_i 269 (by decide +kernel) (by decide +kernel), by decide +kernel, by decide +kernel, rfl⟩
theorem d1_init_0 : decode b1_init 0 = .ok (.aload_n 0, 1) := by decide +kernel
theorem d1_init_1 : decode b1_init 1 = .ok (.invokespecial 3, 3) := by decide +kernel
theorem d1_init_4 : decode b1_init 4 = .ok (.aload_n 0, 1) := by decide +kernel
theorem d1_init_5 : decode b1_init 5 = .ok (.iconst 0, 1) := by decide +kernel
theorem d1_init_6 : decode b1_init 6 = .ok (.putfield 9, 3) := by decide +kernel
theorem d1_init_9 : decode b1_init 9 = .ok (.aload_n 0, 1) := by decide +kernel
theorem d1_init_10 : decode b1_init 10 = .ok (.iconst 0, 1) := by decide +kernel
theorem d1_init_11 : decode b1_init 11 = .ok (.putfield 15, 3) := by decide +kernel
theorem d1_init_14 : decode b1_init 14 = .ok (.aload_n 0, 1) := by decide +kernel
theorem d1_init_15 : decode b1_init 15 = .ok (.iconst 0, 1) := by decide +kernel
theorem d1_init_16 : decode b1_init 16 = .ok (.putfield 18, 3) := by decide +kernel
theorem d1_init_19 : decode b1_init 19 = .ok (.aload_n 0, 1) := by decide +kernel
theorem d1_init_20 : decode b1_init 20 = .ok (.iconst 0, 1) := by decide +kernel
theorem d1_init_21 : decode b1_init 21 = .ok (.putfield 21, 3) := by decide +kernel
theorem d1_init_24 : decode b1_init 24 = .ok (.aload_n 0, 1) := by decide +kernel
theorem d1_init_25 : decode b1_init 25 = .ok (.iconst 0, 1) := by decide +kernel
theorem d1_init_26 : decode b1_init 26 = .ok (.putfield 24, 3) := by decide +kernel
theorem d1_init_29 : decode b1_init 29 = .ok (.aload_n 0, 1) := by decide +kernel
theorem d1_init_30 : decode b1_init 30 = .ok (.iconst 0, 1) := by decide +kernel
theorem d1_init_31 : decode b1_init 31 = .ok (.putfield 27, 3) := by decide +kernel
theorem d1_init_34 : decode b1_init 34 = .ok (.aload_n 0, 1) := by decide +kernel
theorem d1_init_35 : decode b1_init 35 = .ok (.bipush 20, 2) := by decide +kernel
theorem d1_init_37 : decode b1_init 37 = .ok (.newarray .int, 2) := by decide +kernel
theorem d1_init_39 : decode b1_init 39 = .ok (.putfield 30, 3) := by decide +kernel
theorem d1_init_42 : decode b1_init 42 = .ok (.aload_n 0, 1) := by decide +kernel
theorem d1_init_43 : decode b1_init 43 = .ok (.bipush 20, 2) := by decide +kernel
theorem d1_init_45 : decode b1_init 45 = .ok (.newarray .boolean, 2) := by decide +kernel
theorem d1_init_47 : decode b1_init 47 = .ok (.putfield 34, 3) := by decide +kernel
theorem d1_init_50 : decode b1_init 50 = .ok (.aload_n 0, 1) := by decide +kernel
theorem d1_init_51 : decode b1_init 51 = .ok (.bipush 20, 2) := by decide +kernel
theorem d1_init_53 : decode b1_init 53 = .ok (.newarray .int, 2) := by decide +kernel
theorem d1_init_55 : decode b1_init 55 = .ok (.putfield 38, 3) := by decide +kernel
theorem d1_init_58 : decode b1_init 58 = .ok (.aload_n 0, 1) := by decide +kernel
theorem d1_init_59 : decode b1_init 59 = .ok (.bipush 20, 2) := by decide +kernel
theorem d1_init_61 : decode b1_init 61 = .ok (.newarray .int, 2) := by decide +kernel
theorem d1_init_63 : decode b1_init 63 = .ok (.putfield 41, 3) := by decide +kernel
theorem d1_init_66 : decode b1_init 66 = .ok (.aload_n 0, 1) := by decide +kernel
theorem d1_init_67 : decode b1_init 67 = .ok (.iconst 0, 1) := by decide +kernel
theorem d1_init_68 : decode b1_init 68 = .ok (.putfield 44, 3) := by decide +kernel
theorem d1_init_71 : decode b1_init 71 = .ok (.aload_n 0, 1) := by decide +kernel
theorem d1_init_72 : decode b1_init 72 = .ok (.bipush 8, 2) := by decide +kernel
theorem d1_init_74 : decode b1_init 74 = .ok (.newarray .int, 2) := by decide +kernel
theorem d1_init_76 : decode b1_init 76 = .ok (.putfield 47, 3) := by decide +kernel
theorem d1_init_79 : decode b1_init 79 = .ok (.aload_n 0, 1) := by decide +kernel
theorem d1_init_80 : decode b1_init 80 = .ok (.bipush 8, 2) := by decide +kernel
theorem d1_init_82 : decode b1_init 82 = .ok (.newarray .boolean, 2) := by decide +kernel
theorem d1_init_84 : decode b1_init 84 = .ok (.putfield 50, 3) := by decide +kernel
theorem d1_init_87 : decode b1_init 87 = .ok (.aload_n 0, 1) := by decide +kernel
theorem d1_init_88 : decode b1_init 88 = .ok (.bipush 8, 2) := by decide +kernel
theorem d1_init_90 : decode b1_init 90 = .ok (.newarray .int, 2) := by decide +kernel
theorem d1_init_92 : decode b1_init 92 = .ok (.putfield 53, 3) := by decide +kernel
theorem d1_init_95 : decode b1_init 95 = .ok (.aload_n 0, 1) := by decide +kernel
theorem d1_init_96 : decode b1_init 96 = .ok (.bipush 8, 2) := by decide +kernel
theorem d1_init_98 : decode b1_init 98 = .ok (.newarray .int, 2) := by decide +kernel
theorem d1_init_100 : decode b1_init 100 = .ok (.putfield 56, 3) := by decide +kernel
theorem d1_init_103 : decode b1_init 103 = .ok (.return_, 1) := by decide +kernel
abbrev b1_startAnew : ByteArray := prog_3_method_2_code
def y1_startAnew : MethodName := ⟨"ChannelSchedule$Plan", "startAnew", "(I)V"⟩
theorem w1_startAnew : YV y1_startAnew b1_startAnew 2 none 1 := ⟨LW_i 461 (by decide +kernel) (by decide +kernel), LW_i 462 (by decide +kernel) (by decide +kernel), LW_i 115 (by decide +kernel) (by decide +kernel), LW_i 463 (by decide +kernel) (by decide +kernel), by decide +kernel, by decide +kernel⟩
theorem d1_startAnew_0 : decode b1_startAnew 0 = .ok (.aload_n 0, 1) := by decide +kernel
theorem d1_startAnew_1 : decode b1_startAnew 1 = .ok (.iload_n 1, 1) := by decide +kernel
theorem d1_startAnew_2 : decode b1_startAnew 2 = .ok (.putfield 9, 3) := by decide +kernel
theorem d1_startAnew_5 : decode b1_startAnew 5 = .ok (.aload_n 0, 1) := by decide +kernel
theorem d1_startAnew_6 : decode b1_startAnew 6 = .ok (.iconst 0, 1) := by decide +kernel
theorem d1_startAnew_7 : decode b1_startAnew 7 = .ok (.putfield 15, 3) := by decide +kernel
theorem d1_startAnew_10 : decode b1_startAnew 10 = .ok (.aload_n 0, 1) := by decide +kernel
theorem d1_startAnew_11 : decode b1_startAnew 11 = .ok (.iconst 0, 1) := by decide +kernel
theorem d1_startAnew_12 : decode b1_startAnew 12 = .ok (.putfield 18, 3) := by decide +kernel
theorem d1_startAnew_15 : decode b1_startAnew 15 = .ok (.aload_n 0, 1) := by decide +kernel
theorem d1_startAnew_16 : decode b1_startAnew 16 = .ok (.iconst 0, 1) := by decide +kernel
theorem d1_startAnew_17 : decode b1_startAnew 17 = .ok (.putfield 21, 3) := by decide +kernel
theorem d1_startAnew_20 : decode b1_startAnew 20 = .ok (.aload_n 0, 1) := by decide +kernel
theorem d1_startAnew_21 : decode b1_startAnew 21 = .ok (.iconst 0, 1) := by decide +kernel
theorem d1_startAnew_22 : decode b1_startAnew 22 = .ok (.putfield 24, 3) := by decide +kernel
theorem d1_startAnew_25 : decode b1_startAnew 25 = .ok (.aload_n 0, 1) := by decide +kernel
theorem d1_startAnew_26 : decode b1_startAnew 26 = .ok (.iconst 0, 1) := by decide +kernel
theorem d1_startAnew_27 : decode b1_startAnew 27 = .ok (.putfield 27, 3) := by decide +kernel
theorem d1_startAnew_30 : decode b1_startAnew 30 = .ok (.aload_n 0, 1) := by decide +kernel
theorem d1_startAnew_31 : decode b1_startAnew 31 = .ok (.iconst 0, 1) := by decide +kernel
theorem d1_startAnew_32 : decode b1_startAnew 32 = .ok (.putfield 44, 3) := by decide +kernel
theorem d1_startAnew_35 : decode b1_startAnew 35 = .ok (.return_, 1) := by decide +kernel
abbrev b1_copyFrom : ByteArray := prog_3_method_3_code
def y1_copyFrom : MethodName := ⟨"ChannelSchedule$Plan", "copyFrom", "(LChannelSchedule$Plan;)V"⟩
theorem w1_copyFrom : YV y1_copyFrom b1_copyFrom 3 none 1 := ⟨LW_i 1039 (by decide +kernel) (by decide +kernel), LW_i 1040 (by decide +kernel) (by decide +kernel), LW_i 115 (by decide +kernel) (by decide +kernel), LW_i 1041 (by decide +kernel) (by decide +kernel), by decide +kernel, by decide +kernel⟩
theorem d1_copyFrom_0 : decode b1_copyFrom 0 = .ok (.aload_n 0, 1) := by decide +kernel
theorem d1_copyFrom_1 : decode b1_copyFrom 1 = .ok (.aload_n 1, 1) := by decide +kernel
theorem d1_copyFrom_2 : decode b1_copyFrom 2 = .ok (.getfield 9, 3) := by decide +kernel
theorem d1_copyFrom_5 : decode b1_copyFrom 5 = .ok (.putfield 9, 3) := by decide +kernel
theorem d1_copyFrom_8 : decode b1_copyFrom 8 = .ok (.aload_n 0, 1) := by decide +kernel
theorem d1_copyFrom_9 : decode b1_copyFrom 9 = .ok (.aload_n 1, 1) := by decide +kernel
theorem d1_copyFrom_10 : decode b1_copyFrom 10 = .ok (.getfield 15, 3) := by decide +kernel
theorem d1_copyFrom_13 : decode b1_copyFrom 13 = .ok (.putfield 15, 3) := by decide +kernel
theorem d1_copyFrom_16 : decode b1_copyFrom 16 = .ok (.aload_n 0, 1) := by decide +kernel
theorem d1_copyFrom_17 : decode b1_copyFrom 17 = .ok (.aload_n 1, 1) := by decide +kernel
theorem d1_copyFrom_18 : decode b1_copyFrom 18 = .ok (.getfield 18, 3) := by decide +kernel
theorem d1_copyFrom_21 : decode b1_copyFrom 21 = .ok (.putfield 18, 3) := by decide +kernel
theorem d1_copyFrom_24 : decode b1_copyFrom 24 = .ok (.aload_n 0, 1) := by decide +kernel
theorem d1_copyFrom_25 : decode b1_copyFrom 25 = .ok (.aload_n 1, 1) := by decide +kernel
theorem d1_copyFrom_26 : decode b1_copyFrom 26 = .ok (.getfield 21, 3) := by decide +kernel
theorem d1_copyFrom_29 : decode b1_copyFrom 29 = .ok (.putfield 21, 3) := by decide +kernel
theorem d1_copyFrom_32 : decode b1_copyFrom 32 = .ok (.aload_n 0, 1) := by decide +kernel
theorem d1_copyFrom_33 : decode b1_copyFrom 33 = .ok (.aload_n 1, 1) := by decide +kernel
theorem d1_copyFrom_34 : decode b1_copyFrom 34 = .ok (.getfield 24, 3) := by decide +kernel
theorem d1_copyFrom_37 : decode b1_copyFrom 37 = .ok (.putfield 24, 3) := by decide +kernel
theorem d1_copyFrom_40 : decode b1_copyFrom 40 = .ok (.aload_n 0, 1) := by decide +kernel
theorem d1_copyFrom_41 : decode b1_copyFrom 41 = .ok (.aload_n 1, 1) := by decide +kernel
theorem d1_copyFrom_42 : decode b1_copyFrom 42 = .ok (.getfield 27, 3) := by decide +kernel
theorem d1_copyFrom_45 : decode b1_copyFrom 45 = .ok (.putfield 27, 3) := by decide +kernel
theorem d1_copyFrom_48 : decode b1_copyFrom 48 = .ok (.iconst 0, 1) := by decide +kernel
theorem d1_copyFrom_49 : decode b1_copyFrom 49 = .ok (.istore_n 2, 1) := by decide +kernel
theorem d1_copyFrom_50 : decode b1_copyFrom 50 = .ok (.iload_n 2, 1) := by decide +kernel
theorem d1_copyFrom_51 : decode b1_copyFrom 51 = .ok (.aload_n 0, 1) := by decide +kernel
theorem d1_copyFrom_52 : decode b1_copyFrom 52 = .ok (.getfield 27, 3) := by decide +kernel
theorem d1_copyFrom_55 : decode b1_copyFrom 55 = .ok (.if_icmp .ge 38, 3) := by decide +kernel
theorem d1_copyFrom_58 : decode b1_copyFrom 58 = .ok (.aload_n 0, 1) := by decide +kernel
theorem d1_copyFrom_59 : decode b1_copyFrom 59 = .ok (.iload_n 2, 1) := by decide +kernel
theorem d1_copyFrom_60 : decode b1_copyFrom 60 = .ok (.aload_n 1, 1) := by decide +kernel
theorem d1_copyFrom_61 : decode b1_copyFrom 61 = .ok (.getfield 30, 3) := by decide +kernel
theorem d1_copyFrom_64 : decode b1_copyFrom 64 = .ok (.iload_n 2, 1) := by decide +kernel
theorem d1_copyFrom_65 : decode b1_copyFrom 65 = .ok (.iaload, 1) := by decide +kernel
theorem d1_copyFrom_66 : decode b1_copyFrom 66 = .ok (.aload_n 1, 1) := by decide +kernel
theorem d1_copyFrom_67 : decode b1_copyFrom 67 = .ok (.getfield 34, 3) := by decide +kernel
theorem d1_copyFrom_70 : decode b1_copyFrom 70 = .ok (.iload_n 2, 1) := by decide +kernel
theorem d1_copyFrom_71 : decode b1_copyFrom 71 = .ok (.baload, 1) := by decide +kernel
theorem d1_copyFrom_72 : decode b1_copyFrom 72 = .ok (.aload_n 1, 1) := by decide +kernel
theorem d1_copyFrom_73 : decode b1_copyFrom 73 = .ok (.getfield 38, 3) := by decide +kernel
theorem d1_copyFrom_76 : decode b1_copyFrom 76 = .ok (.iload_n 2, 1) := by decide +kernel
theorem d1_copyFrom_77 : decode b1_copyFrom 77 = .ok (.iaload, 1) := by decide +kernel
theorem d1_copyFrom_78 : decode b1_copyFrom 78 = .ok (.aload_n 1, 1) := by decide +kernel
theorem d1_copyFrom_79 : decode b1_copyFrom 79 = .ok (.getfield 41, 3) := by decide +kernel
theorem d1_copyFrom_82 : decode b1_copyFrom 82 = .ok (.iload_n 2, 1) := by decide +kernel
theorem d1_copyFrom_83 : decode b1_copyFrom 83 = .ok (.iaload, 1) := by decide +kernel
theorem d1_copyFrom_84 : decode b1_copyFrom 84 = .ok (.invokevirtual 59, 3) := by decide +kernel
theorem d1_copyFrom_87 : decode b1_copyFrom 87 = .ok (.iinc 2 1, 3) := by decide +kernel
theorem d1_copyFrom_90 : decode b1_copyFrom 90 = .ok (.goto (-40), 3) := by decide +kernel
theorem d1_copyFrom_93 : decode b1_copyFrom 93 = .ok (.aload_n 0, 1) := by decide +kernel
theorem d1_copyFrom_94 : decode b1_copyFrom 94 = .ok (.aload_n 1, 1) := by decide +kernel
theorem d1_copyFrom_95 : decode b1_copyFrom 95 = .ok (.getfield 44, 3) := by decide +kernel
theorem d1_copyFrom_98 : decode b1_copyFrom 98 = .ok (.putfield 44, 3) := by decide +kernel
theorem d1_copyFrom_101 : decode b1_copyFrom 101 = .ok (.iconst 0, 1) := by decide +kernel
theorem d1_copyFrom_102 : decode b1_copyFrom 102 = .ok (.istore_n 2, 1) := by decide +kernel
theorem d1_copyFrom_103 : decode b1_copyFrom 103 = .ok (.iload_n 2, 1) := by decide +kernel
theorem d1_copyFrom_104 : decode b1_copyFrom 104 = .ok (.aload_n 0, 1) := by decide +kernel
theorem d1_copyFrom_105 : decode b1_copyFrom 105 = .ok (.getfield 44, 3) := by decide +kernel
theorem d1_copyFrom_108 : decode b1_copyFrom 108 = .ok (.if_icmp .ge 38, 3) := by decide +kernel
theorem d1_copyFrom_111 : decode b1_copyFrom 111 = .ok (.aload_n 0, 1) := by decide +kernel
theorem d1_copyFrom_112 : decode b1_copyFrom 112 = .ok (.iload_n 2, 1) := by decide +kernel
theorem d1_copyFrom_113 : decode b1_copyFrom 113 = .ok (.aload_n 1, 1) := by decide +kernel
theorem d1_copyFrom_114 : decode b1_copyFrom 114 = .ok (.getfield 47, 3) := by decide +kernel
theorem d1_copyFrom_117 : decode b1_copyFrom 117 = .ok (.iload_n 2, 1) := by decide +kernel
theorem d1_copyFrom_118 : decode b1_copyFrom 118 = .ok (.iaload, 1) := by decide +kernel
theorem d1_copyFrom_119 : decode b1_copyFrom 119 = .ok (.aload_n 1, 1) := by decide +kernel
theorem d1_copyFrom_120 : decode b1_copyFrom 120 = .ok (.getfield 50, 3) := by decide +kernel
theorem d1_copyFrom_123 : decode b1_copyFrom 123 = .ok (.iload_n 2, 1) := by decide +kernel
theorem d1_copyFrom_124 : decode b1_copyFrom 124 = .ok (.baload, 1) := by decide +kernel
theorem d1_copyFrom_125 : decode b1_copyFrom 125 = .ok (.aload_n 1, 1) := by decide +kernel
theorem d1_copyFrom_126 : decode b1_copyFrom 126 = .ok (.getfield 53, 3) := by decide +kernel
theorem d1_copyFrom_129 : decode b1_copyFrom 129 = .ok (.iload_n 2, 1) := by decide +kernel
theorem d1_copyFrom_130 : decode b1_copyFrom 130 = .ok (.iaload, 1) := by decide +kernel
theorem d1_copyFrom_131 : decode b1_copyFrom 131 = .ok (.aload_n 1, 1) := by decide +kernel
theorem d1_copyFrom_132 : decode b1_copyFrom 132 = .ok (.getfield 56, 3) := by decide +kernel
theorem d1_copyFrom_135 : decode b1_copyFrom 135 = .ok (.iload_n 2, 1) := by decide +kernel
theorem d1_copyFrom_136 : decode b1_copyFrom 136 = .ok (.iaload, 1) := by decide +kernel
theorem d1_copyFrom_137 : decode b1_copyFrom 137 = .ok (.invokevirtual 63, 3) := by decide +kernel
theorem d1_copyFrom_140 : decode b1_copyFrom 140 = .ok (.iinc 2 1, 3) := by decide +kernel
theorem d1_copyFrom_143 : decode b1_copyFrom 143 = .ok (.goto (-40), 3) := by decide +kernel
theorem d1_copyFrom_146 : decode b1_copyFrom 146 = .ok (.return_, 1) := by decide +kernel
abbrev b1_putBooking : ByteArray := prog_3_method_4_code
def y1_putBooking : MethodName := ⟨"ChannelSchedule$Plan", "putBooking", "(IIZII)V"⟩
theorem w1_putBooking : YV y1_putBooking b1_putBooking 6 none 5 := ⟨LW_i 1043 (by decide +kernel) (by decide +kernel), LW_i 1044 (by decide +kernel) (by decide +kernel), LW_i 115 (by decide +kernel) (by decide +kernel), LW_i 1045 (by decide +kernel) (by decide +kernel), by decide +kernel, by decide +kernel⟩
theorem d1_putBooking_0 : decode b1_putBooking 0 = .ok (.aload_n 0, 1) := by decide +kernel
theorem d1_putBooking_1 : decode b1_putBooking 1 = .ok (.getfield 30, 3) := by decide +kernel
theorem d1_putBooking_4 : decode b1_putBooking 4 = .ok (.iload_n 1, 1) := by decide +kernel
theorem d1_putBooking_5 : decode b1_putBooking 5 = .ok (.iload_n 2, 1) := by decide +kernel
theorem d1_putBooking_6 : decode b1_putBooking 6 = .ok (.iastore, 1) := by decide +kernel
theorem d1_putBooking_7 : decode b1_putBooking 7 = .ok (.aload_n 0, 1) := by decide +kernel
theorem d1_putBooking_8 : decode b1_putBooking 8 = .ok (.getfield 34, 3) := by decide +kernel
theorem d1_putBooking_11 : decode b1_putBooking 11 = .ok (.iload_n 1, 1) := by decide +kernel
theorem d1_putBooking_12 : decode b1_putBooking 12 = .ok (.iload_n 3, 1) := by decide +kernel
theorem d1_putBooking_13 : decode b1_putBooking 13 = .ok (.bastore, 1) := by decide +kernel
theorem d1_putBooking_14 : decode b1_putBooking 14 = .ok (.aload_n 0, 1) := by decide +kernel
theorem d1_putBooking_15 : decode b1_putBooking 15 = .ok (.getfield 38, 3) := by decide +kernel
theorem d1_putBooking_18 : decode b1_putBooking 18 = .ok (.iload_n 1, 1) := by decide +kernel
theorem d1_putBooking_19 : decode b1_putBooking 19 = .ok (.iload 4, 2) := by decide +kernel
theorem d1_putBooking_21 : decode b1_putBooking 21 = .ok (.iastore, 1) := by decide +kernel
theorem d1_putBooking_22 : decode b1_putBooking 22 = .ok (.aload_n 0, 1) := by decide +kernel
theorem d1_putBooking_23 : decode b1_putBooking 23 = .ok (.getfield 41, 3) := by decide +kernel
theorem d1_putBooking_26 : decode b1_putBooking 26 = .ok (.iload_n 1, 1) := by decide +kernel
theorem d1_putBooking_27 : decode b1_putBooking 27 = .ok (.iload 5, 2) := by decide +kernel
theorem d1_putBooking_29 : decode b1_putBooking 29 = .ok (.iastore, 1) := by decide +kernel
theorem d1_putBooking_30 : decode b1_putBooking 30 = .ok (.return_, 1) := by decide +kernel
abbrev b1_insertBooking : ByteArray := prog_3_method_5_code
def y1_insertBooking : MethodName := ⟨"ChannelSchedule$Plan", "insertBooking", "(IZII)V"⟩
theorem w1_insertBooking : YV y1_insertBooking b1_insertBooking 6 none 4 := ⟨LW_i 1071 (by decide +kernel) (by decide +kernel), LW_i 1072 (by decide +kernel) (by decide +kernel), LW_i 115 (by decide +kernel) (by decide +kernel), LW_i 1073 (by decide +kernel) (by decide +kernel), by decide +kernel, by decide +kernel⟩
theorem d1_insertBooking_0 : decode b1_insertBooking 0 = .ok (.aload_n 0, 1) := by decide +kernel
theorem d1_insertBooking_1 : decode b1_insertBooking 1 = .ok (.getfield 27, 3) := by decide +kernel
theorem d1_insertBooking_4 : decode b1_insertBooking 4 = .ok (.bipush 20, 2) := by decide +kernel
theorem d1_insertBooking_6 : decode b1_insertBooking 6 = .ok (.if_icmp .lt 4, 3) := by decide +kernel
theorem d1_insertBooking_9 : decode b1_insertBooking 9 = .ok (.return_, 1) := by decide +kernel
theorem d1_insertBooking_10 : decode b1_insertBooking 10 = .ok (.aload_n 0, 1) := by decide +kernel
theorem d1_insertBooking_11 : decode b1_insertBooking 11 = .ok (.getfield 27, 3) := by decide +kernel
theorem d1_insertBooking_14 : decode b1_insertBooking 14 = .ok (.istore 5, 2) := by decide +kernel
theorem d1_insertBooking_16 : decode b1_insertBooking 16 = .ok (.iload 5, 2) := by decide +kernel
theorem d1_insertBooking_18 : decode b1_insertBooking 18 = .ok (.ifCond .le 64, 3) := by decide +kernel
theorem d1_insertBooking_21 : decode b1_insertBooking 21 = .ok (.aload_n 0, 1) := by decide +kernel
theorem d1_insertBooking_22 : decode b1_insertBooking 22 = .ok (.getfield 38, 3) := by decide +kernel
theorem d1_insertBooking_25 : decode b1_insertBooking 25 = .ok (.iload 5, 2) := by decide +kernel
theorem d1_insertBooking_27 : decode b1_insertBooking 27 = .ok (.iconst 1, 1) := by decide +kernel
theorem d1_insertBooking_28 : decode b1_insertBooking 28 = .ok (.isub, 1) := by decide +kernel
theorem d1_insertBooking_29 : decode b1_insertBooking 29 = .ok (.iaload, 1) := by decide +kernel
theorem d1_insertBooking_30 : decode b1_insertBooking 30 = .ok (.iload_n 3, 1) := by decide +kernel
theorem d1_insertBooking_31 : decode b1_insertBooking 31 = .ok (.if_icmp .le 51, 3) := by decide +kernel
theorem d1_insertBooking_34 : decode b1_insertBooking 34 = .ok (.aload_n 0, 1) := by decide +kernel
theorem d1_insertBooking_35 : decode b1_insertBooking 35 = .ok (.iload 5, 2) := by decide +kernel
theorem d1_insertBooking_37 : decode b1_insertBooking 37 = .ok (.aload_n 0, 1) := by decide +kernel
theorem d1_insertBooking_38 : decode b1_insertBooking 38 = .ok (.getfield 30, 3) := by decide +kernel
theorem d1_insertBooking_41 : decode b1_insertBooking 41 = .ok (.iload 5, 2) := by decide +kernel
theorem d1_insertBooking_43 : decode b1_insertBooking 43 = .ok (.iconst 1, 1) := by decide +kernel
theorem d1_insertBooking_44 : decode b1_insertBooking 44 = .ok (.isub, 1) := by decide +kernel
theorem d1_insertBooking_45 : decode b1_insertBooking 45 = .ok (.iaload, 1) := by decide +kernel
theorem d1_insertBooking_46 : decode b1_insertBooking 46 = .ok (.aload_n 0, 1) := by decide +kernel
theorem d1_insertBooking_47 : decode b1_insertBooking 47 = .ok (.getfield 34, 3) := by decide +kernel
theorem d1_insertBooking_50 : decode b1_insertBooking 50 = .ok (.iload 5, 2) := by decide +kernel
theorem d1_insertBooking_52 : decode b1_insertBooking 52 = .ok (.iconst 1, 1) := by decide +kernel
theorem d1_insertBooking_53 : decode b1_insertBooking 53 = .ok (.isub, 1) := by decide +kernel
theorem d1_insertBooking_54 : decode b1_insertBooking 54 = .ok (.baload, 1) := by decide +kernel
theorem d1_insertBooking_55 : decode b1_insertBooking 55 = .ok (.aload_n 0, 1) := by decide +kernel
theorem d1_insertBooking_56 : decode b1_insertBooking 56 = .ok (.getfield 38, 3) := by decide +kernel
theorem d1_insertBooking_59 : decode b1_insertBooking 59 = .ok (.iload 5, 2) := by decide +kernel
theorem d1_insertBooking_61 : decode b1_insertBooking 61 = .ok (.iconst 1, 1) := by decide +kernel
theorem d1_insertBooking_62 : decode b1_insertBooking 62 = .ok (.isub, 1) := by decide +kernel
theorem d1_insertBooking_63 : decode b1_insertBooking 63 = .ok (.iaload, 1) := by decide +kernel
theorem d1_insertBooking_64 : decode b1_insertBooking 64 = .ok (.aload_n 0, 1) := by decide +kernel
theorem d1_insertBooking_65 : decode b1_insertBooking 65 = .ok (.getfield 41, 3) := by decide +kernel
theorem d1_insertBooking_68 : decode b1_insertBooking 68 = .ok (.iload 5, 2) := by decide +kernel
theorem d1_insertBooking_70 : decode b1_insertBooking 70 = .ok (.iconst 1, 1) := by decide +kernel
theorem d1_insertBooking_71 : decode b1_insertBooking 71 = .ok (.isub, 1) := by decide +kernel
theorem d1_insertBooking_72 : decode b1_insertBooking 72 = .ok (.iaload, 1) := by decide +kernel
theorem d1_insertBooking_73 : decode b1_insertBooking 73 = .ok (.invokevirtual 59, 3) := by decide +kernel
theorem d1_insertBooking_76 : decode b1_insertBooking 76 = .ok (.iinc 5 (-1), 3) := by decide +kernel
theorem d1_insertBooking_79 : decode b1_insertBooking 79 = .ok (.goto (-63), 3) := by decide +kernel
theorem d1_insertBooking_82 : decode b1_insertBooking 82 = .ok (.aload_n 0, 1) := by decide +kernel
theorem d1_insertBooking_83 : decode b1_insertBooking 83 = .ok (.iload 5, 2) := by decide +kernel
theorem d1_insertBooking_85 : decode b1_insertBooking 85 = .ok (.iload_n 1, 1) := by decide +kernel
theorem d1_insertBooking_86 : decode b1_insertBooking 86 = .ok (.iload_n 2, 1) := by decide +kernel
theorem d1_insertBooking_87 : decode b1_insertBooking 87 = .ok (.iload_n 3, 1) := by decide +kernel
theorem d1_insertBooking_88 : decode b1_insertBooking 88 = .ok (.iload 4, 2) := by decide +kernel
theorem d1_insertBooking_90 : decode b1_insertBooking 90 = .ok (.invokevirtual 59, 3) := by decide +kernel
theorem d1_insertBooking_93 : decode b1_insertBooking 93 = .ok (.aload_n 0, 1) := by decide +kernel
theorem d1_insertBooking_94 : decode b1_insertBooking 94 = .ok (.dup, 1) := by decide +kernel
theorem d1_insertBooking_95 : decode b1_insertBooking 95 = .ok (.getfield 27, 3) := by decide +kernel
theorem d1_insertBooking_98 : decode b1_insertBooking 98 = .ok (.iconst 1, 1) := by decide +kernel
theorem d1_insertBooking_99 : decode b1_insertBooking 99 = .ok (.iadd, 1) := by decide +kernel
theorem d1_insertBooking_100 : decode b1_insertBooking 100 = .ok (.putfield 27, 3) := by decide +kernel
theorem d1_insertBooking_103 : decode b1_insertBooking 103 = .ok (.return_, 1) := by decide +kernel
abbrev b1_removeBooking : ByteArray := prog_3_method_6_code
def y1_removeBooking : MethodName := ⟨"ChannelSchedule$Plan", "removeBooking", "(I)V"⟩
theorem w1_removeBooking : YV y1_removeBooking b1_removeBooking 3 none 1 := ⟨LW_i 1055 (by decide +kernel) (by decide +kernel), LW_i 1056 (by decide +kernel) (by decide +kernel), LW_i 115 (by decide +kernel) (by decide +kernel), LW_i 1057 (by decide +kernel) (by decide +kernel), by decide +kernel, by decide +kernel⟩
theorem d1_removeBooking_0 : decode b1_removeBooking 0 = .ok (.iload_n 1, 1) := by decide +kernel
theorem d1_removeBooking_1 : decode b1_removeBooking 1 = .ok (.iconst 1, 1) := by decide +kernel
theorem d1_removeBooking_2 : decode b1_removeBooking 2 = .ok (.iadd, 1) := by decide +kernel
theorem d1_removeBooking_3 : decode b1_removeBooking 3 = .ok (.istore_n 2, 1) := by decide +kernel
theorem d1_removeBooking_4 : decode b1_removeBooking 4 = .ok (.iload_n 2, 1) := by decide +kernel
theorem d1_removeBooking_5 : decode b1_removeBooking 5 = .ok (.aload_n 0, 1) := by decide +kernel
theorem d1_removeBooking_6 : decode b1_removeBooking 6 = .ok (.getfield 27, 3) := by decide +kernel
theorem d1_removeBooking_9 : decode b1_removeBooking 9 = .ok (.if_icmp .ge 40, 3) := by decide +kernel
theorem d1_removeBooking_12 : decode b1_removeBooking 12 = .ok (.aload_n 0, 1) := by decide +kernel
theorem d1_removeBooking_13 : decode b1_removeBooking 13 = .ok (.iload_n 2, 1) := by decide +kernel
theorem d1_removeBooking_14 : decode b1_removeBooking 14 = .ok (.iconst 1, 1) := by decide +kernel
theorem d1_removeBooking_15 : decode b1_removeBooking 15 = .ok (.isub, 1) := by decide +kernel
theorem d1_removeBooking_16 : decode b1_removeBooking 16 = .ok (.aload_n 0, 1) := by decide +kernel
theorem d1_removeBooking_17 : decode b1_removeBooking 17 = .ok (.getfield 30, 3) := by decide +kernel
theorem d1_removeBooking_20 : decode b1_removeBooking 20 = .ok (.iload_n 2, 1) := by decide +kernel
theorem d1_removeBooking_21 : decode b1_removeBooking 21 = .ok (.iaload, 1) := by decide +kernel
theorem d1_removeBooking_22 : decode b1_removeBooking 22 = .ok (.aload_n 0, 1) := by decide +kernel
theorem d1_removeBooking_23 : decode b1_removeBooking 23 = .ok (.getfield 34, 3) := by decide +kernel
theorem d1_removeBooking_26 : decode b1_removeBooking 26 = .ok (.iload_n 2, 1) := by decide +kernel
theorem d1_removeBooking_27 : decode b1_removeBooking 27 = .ok (.baload, 1) := by decide +kernel
theorem d1_removeBooking_28 : decode b1_removeBooking 28 = .ok (.aload_n 0, 1) := by decide +kernel
theorem d1_removeBooking_29 : decode b1_removeBooking 29 = .ok (.getfield 38, 3) := by decide +kernel
theorem d1_removeBooking_32 : decode b1_removeBooking 32 = .ok (.iload_n 2, 1) := by decide +kernel
theorem d1_removeBooking_33 : decode b1_removeBooking 33 = .ok (.iaload, 1) := by decide +kernel
theorem d1_removeBooking_34 : decode b1_removeBooking 34 = .ok (.aload_n 0, 1) := by decide +kernel
theorem d1_removeBooking_35 : decode b1_removeBooking 35 = .ok (.getfield 41, 3) := by decide +kernel
theorem d1_removeBooking_38 : decode b1_removeBooking 38 = .ok (.iload_n 2, 1) := by decide +kernel
theorem d1_removeBooking_39 : decode b1_removeBooking 39 = .ok (.iaload, 1) := by decide +kernel
theorem d1_removeBooking_40 : decode b1_removeBooking 40 = .ok (.invokevirtual 59, 3) := by decide +kernel
theorem d1_removeBooking_43 : decode b1_removeBooking 43 = .ok (.iinc 2 1, 3) := by decide +kernel
theorem d1_removeBooking_46 : decode b1_removeBooking 46 = .ok (.goto (-42), 3) := by decide +kernel
theorem d1_removeBooking_49 : decode b1_removeBooking 49 = .ok (.aload_n 0, 1) := by decide +kernel
theorem d1_removeBooking_50 : decode b1_removeBooking 50 = .ok (.dup, 1) := by decide +kernel
theorem d1_removeBooking_51 : decode b1_removeBooking 51 = .ok (.getfield 27, 3) := by decide +kernel
theorem d1_removeBooking_54 : decode b1_removeBooking 54 = .ok (.iconst 1, 1) := by decide +kernel
theorem d1_removeBooking_55 : decode b1_removeBooking 55 = .ok (.isub, 1) := by decide +kernel
theorem d1_removeBooking_56 : decode b1_removeBooking 56 = .ok (.putfield 27, 3) := by decide +kernel
theorem d1_removeBooking_59 : decode b1_removeBooking 59 = .ok (.return_, 1) := by decide +kernel
abbrev b1_putRequest : ByteArray := prog_3_method_7_code
def y1_putRequest : MethodName := ⟨"ChannelSchedule$Plan", "putRequest", "(IIZII)V"⟩
theorem w1_putRequest : YV y1_putRequest b1_putRequest 6 none 5 := ⟨LW_i 1047 (by decide +kernel) (by decide +kernel), LW_i 1048 (by decide +kernel) (by decide +kernel), LW_i 115 (by decide +kernel) (by decide +kernel), LW_i 1049 (by decide +kernel) (by decide +kernel), by decide +kernel, by decide +kernel⟩
theorem d1_putRequest_0 : decode b1_putRequest 0 = .ok (.aload_n 0, 1) := by decide +kernel
theorem d1_putRequest_1 : decode b1_putRequest 1 = .ok (.getfield 47, 3) := by decide +kernel
theorem d1_putRequest_4 : decode b1_putRequest 4 = .ok (.iload_n 1, 1) := by decide +kernel
theorem d1_putRequest_5 : decode b1_putRequest 5 = .ok (.iload_n 2, 1) := by decide +kernel
theorem d1_putRequest_6 : decode b1_putRequest 6 = .ok (.iastore, 1) := by decide +kernel
theorem d1_putRequest_7 : decode b1_putRequest 7 = .ok (.aload_n 0, 1) := by decide +kernel
theorem d1_putRequest_8 : decode b1_putRequest 8 = .ok (.getfield 50, 3) := by decide +kernel
theorem d1_putRequest_11 : decode b1_putRequest 11 = .ok (.iload_n 1, 1) := by decide +kernel
theorem d1_putRequest_12 : decode b1_putRequest 12 = .ok (.iload_n 3, 1) := by decide +kernel
theorem d1_putRequest_13 : decode b1_putRequest 13 = .ok (.bastore, 1) := by decide +kernel
theorem d1_putRequest_14 : decode b1_putRequest 14 = .ok (.aload_n 0, 1) := by decide +kernel
theorem d1_putRequest_15 : decode b1_putRequest 15 = .ok (.getfield 53, 3) := by decide +kernel
theorem d1_putRequest_18 : decode b1_putRequest 18 = .ok (.iload_n 1, 1) := by decide +kernel
theorem d1_putRequest_19 : decode b1_putRequest 19 = .ok (.iload 4, 2) := by decide +kernel
theorem d1_putRequest_21 : decode b1_putRequest 21 = .ok (.iastore, 1) := by decide +kernel
theorem d1_putRequest_22 : decode b1_putRequest 22 = .ok (.aload_n 0, 1) := by decide +kernel
theorem d1_putRequest_23 : decode b1_putRequest 23 = .ok (.getfield 56, 3) := by decide +kernel
theorem d1_putRequest_26 : decode b1_putRequest 26 = .ok (.iload_n 1, 1) := by decide +kernel
theorem d1_putRequest_27 : decode b1_putRequest 27 = .ok (.iload 5, 2) := by decide +kernel
theorem d1_putRequest_29 : decode b1_putRequest 29 = .ok (.iastore, 1) := by decide +kernel
theorem d1_putRequest_30 : decode b1_putRequest 30 = .ok (.return_, 1) := by decide +kernel
abbrev b1_addRequest : ByteArray := prog_3_method_8_code
def y1_addRequest : MethodName := ⟨"ChannelSchedule$Plan", "addRequest", "(IZII)V"⟩
theorem w1_addRequest : YV y1_addRequest b1_addRequest 5 none 4 := ⟨LW_i 1115 (by decide +kernel) (by decide +kernel), LW_i 1116 (by decide +kernel) (by decide +kernel), LW_i 115 (by decide +kernel) (by decide +kernel), LW_i 1117 (by decide +kernel) (by decide +kernel), by decide +kernel, by decide +kernel⟩
theorem d1_addRequest_0 : decode b1_addRequest 0 = .ok (.aload_n 0, 1) := by decide +kernel
theorem d1_addRequest_1 : decode b1_addRequest 1 = .ok (.getfield 44, 3) := by decide +kernel
theorem d1_addRequest_4 : decode b1_addRequest 4 = .ok (.bipush 8, 2) := by decide +kernel
theorem d1_addRequest_6 : decode b1_addRequest 6 = .ok (.if_icmp .ge 26, 3) := by decide +kernel
theorem d1_addRequest_9 : decode b1_addRequest 9 = .ok (.aload_n 0, 1) := by decide +kernel
theorem d1_addRequest_10 : decode b1_addRequest 10 = .ok (.aload_n 0, 1) := by decide +kernel
theorem d1_addRequest_11 : decode b1_addRequest 11 = .ok (.getfield 44, 3) := by decide +kernel
theorem d1_addRequest_14 : decode b1_addRequest 14 = .ok (.iload_n 1, 1) := by decide +kernel
theorem d1_addRequest_15 : decode b1_addRequest 15 = .ok (.iload_n 2, 1) := by decide +kernel
theorem d1_addRequest_16 : decode b1_addRequest 16 = .ok (.iload_n 3, 1) := by decide +kernel
theorem d1_addRequest_17 : decode b1_addRequest 17 = .ok (.iload 4, 2) := by decide +kernel
theorem d1_addRequest_19 : decode b1_addRequest 19 = .ok (.invokevirtual 63, 3) := by decide +kernel
theorem d1_addRequest_22 : decode b1_addRequest 22 = .ok (.aload_n 0, 1) := by decide +kernel
theorem d1_addRequest_23 : decode b1_addRequest 23 = .ok (.dup, 1) := by decide +kernel
theorem d1_addRequest_24 : decode b1_addRequest 24 = .ok (.getfield 44, 3) := by decide +kernel
theorem d1_addRequest_27 : decode b1_addRequest 27 = .ok (.iconst 1, 1) := by decide +kernel
theorem d1_addRequest_28 : decode b1_addRequest 28 = .ok (.iadd, 1) := by decide +kernel
theorem d1_addRequest_29 : decode b1_addRequest 29 = .ok (.putfield 44, 3) := by decide +kernel
theorem d1_addRequest_32 : decode b1_addRequest 32 = .ok (.return_, 1) := by decide +kernel
abbrev b1_removeRequest : ByteArray := prog_3_method_9_code
def y1_removeRequest : MethodName := ⟨"ChannelSchedule$Plan", "removeRequest", "(I)V"⟩
theorem w1_removeRequest : YV y1_removeRequest b1_removeRequest 3 none 1 := ⟨LW_i 1063 (by decide +kernel) (by decide +kernel), LW_i 1064 (by decide +kernel) (by decide +kernel), LW_i 115 (by decide +kernel) (by decide +kernel), LW_i 1065 (by decide +kernel) (by decide +kernel), by decide +kernel, by decide +kernel⟩
theorem d1_removeRequest_0 : decode b1_removeRequest 0 = .ok (.iload_n 1, 1) := by decide +kernel
theorem d1_removeRequest_1 : decode b1_removeRequest 1 = .ok (.iconst 1, 1) := by decide +kernel
theorem d1_removeRequest_2 : decode b1_removeRequest 2 = .ok (.iadd, 1) := by decide +kernel
theorem d1_removeRequest_3 : decode b1_removeRequest 3 = .ok (.istore_n 2, 1) := by decide +kernel
theorem d1_removeRequest_4 : decode b1_removeRequest 4 = .ok (.iload_n 2, 1) := by decide +kernel
theorem d1_removeRequest_5 : decode b1_removeRequest 5 = .ok (.aload_n 0, 1) := by decide +kernel
theorem d1_removeRequest_6 : decode b1_removeRequest 6 = .ok (.getfield 44, 3) := by decide +kernel
theorem d1_removeRequest_9 : decode b1_removeRequest 9 = .ok (.if_icmp .ge 40, 3) := by decide +kernel
theorem d1_removeRequest_12 : decode b1_removeRequest 12 = .ok (.aload_n 0, 1) := by decide +kernel
theorem d1_removeRequest_13 : decode b1_removeRequest 13 = .ok (.iload_n 2, 1) := by decide +kernel
theorem d1_removeRequest_14 : decode b1_removeRequest 14 = .ok (.iconst 1, 1) := by decide +kernel
theorem d1_removeRequest_15 : decode b1_removeRequest 15 = .ok (.isub, 1) := by decide +kernel
theorem d1_removeRequest_16 : decode b1_removeRequest 16 = .ok (.aload_n 0, 1) := by decide +kernel
theorem d1_removeRequest_17 : decode b1_removeRequest 17 = .ok (.getfield 47, 3) := by decide +kernel
theorem d1_removeRequest_20 : decode b1_removeRequest 20 = .ok (.iload_n 2, 1) := by decide +kernel
theorem d1_removeRequest_21 : decode b1_removeRequest 21 = .ok (.iaload, 1) := by decide +kernel
theorem d1_removeRequest_22 : decode b1_removeRequest 22 = .ok (.aload_n 0, 1) := by decide +kernel
theorem d1_removeRequest_23 : decode b1_removeRequest 23 = .ok (.getfield 50, 3) := by decide +kernel
theorem d1_removeRequest_26 : decode b1_removeRequest 26 = .ok (.iload_n 2, 1) := by decide +kernel
theorem d1_removeRequest_27 : decode b1_removeRequest 27 = .ok (.baload, 1) := by decide +kernel
theorem d1_removeRequest_28 : decode b1_removeRequest 28 = .ok (.aload_n 0, 1) := by decide +kernel
theorem d1_removeRequest_29 : decode b1_removeRequest 29 = .ok (.getfield 53, 3) := by decide +kernel
theorem d1_removeRequest_32 : decode b1_removeRequest 32 = .ok (.iload_n 2, 1) := by decide +kernel
theorem d1_removeRequest_33 : decode b1_removeRequest 33 = .ok (.iaload, 1) := by decide +kernel
theorem d1_removeRequest_34 : decode b1_removeRequest 34 = .ok (.aload_n 0, 1) := by decide +kernel
theorem d1_removeRequest_35 : decode b1_removeRequest 35 = .ok (.getfield 56, 3) := by decide +kernel
theorem d1_removeRequest_38 : decode b1_removeRequest 38 = .ok (.iload_n 2, 1) := by decide +kernel
theorem d1_removeRequest_39 : decode b1_removeRequest 39 = .ok (.iaload, 1) := by decide +kernel
theorem d1_removeRequest_40 : decode b1_removeRequest 40 = .ok (.invokevirtual 63, 3) := by decide +kernel
theorem d1_removeRequest_43 : decode b1_removeRequest 43 = .ok (.iinc 2 1, 3) := by decide +kernel
theorem d1_removeRequest_46 : decode b1_removeRequest 46 = .ok (.goto (-42), 3) := by decide +kernel
theorem d1_removeRequest_49 : decode b1_removeRequest 49 = .ok (.aload_n 0, 1) := by decide +kernel
theorem d1_removeRequest_50 : decode b1_removeRequest 50 = .ok (.dup, 1) := by decide +kernel
theorem d1_removeRequest_51 : decode b1_removeRequest 51 = .ok (.getfield 44, 3) := by decide +kernel
theorem d1_removeRequest_54 : decode b1_removeRequest 54 = .ok (.iconst 1, 1) := by decide +kernel
theorem d1_removeRequest_55 : decode b1_removeRequest 55 = .ok (.isub, 1) := by decide +kernel
theorem d1_removeRequest_56 : decode b1_removeRequest 56 = .ok (.putfield 44, 3) := by decide +kernel
theorem d1_removeRequest_59 : decode b1_removeRequest 59 = .ok (.return_, 1) := by decide +kernel
abbrev b2_init : ByteArray := prog_4_method_1_code
def y2_init : MethodName := ⟨"ChannelSchedule$Script", "<init>", "()V"⟩
theorem w2_init : YI y2_init b2_init 1 0 := ⟨LW_i 180 (by decide +kernel) (by decide +kernel), LW_i 112 (by decide +kernel) (by decide +kernel), LW_i 181 (by decide +kernel) (by decide +kernel), by decide +kernel, by decide +kernel, rfl⟩
theorem d2_init_0 : decode b2_init 0 = .ok (.aload_n 0, 1) := by decide +kernel
theorem d2_init_1 : decode b2_init 1 = .ok (.invokespecial 3, 3) := by decide +kernel
theorem d2_init_4 : decode b2_init 4 = .ok (.aload_n 0, 1) := by decide +kernel
theorem d2_init_5 : decode b2_init 5 = .ok (.iconst 0, 1) := by decide +kernel
theorem d2_init_6 : decode b2_init 6 = .ok (.putfield 9, 3) := by decide +kernel
theorem d2_init_9 : decode b2_init 9 = .ok (.aload_n 0, 1) := by decide +kernel
theorem d2_init_10 : decode b2_init 10 = .ok (.bipush 30, 2) := by decide +kernel
theorem d2_init_12 : decode b2_init 12 = .ok (.newarray .int, 2) := by decide +kernel
theorem d2_init_14 : decode b2_init 14 = .ok (.putfield 15, 3) := by decide +kernel
theorem d2_init_17 : decode b2_init 17 = .ok (.aload_n 0, 1) := by decide +kernel
theorem d2_init_18 : decode b2_init 18 = .ok (.bipush 30, 2) := by decide +kernel
theorem d2_init_20 : decode b2_init 20 = .ok (.newarray .int, 2) := by decide +kernel
theorem d2_init_22 : decode b2_init 22 = .ok (.putfield 19, 3) := by decide +kernel
theorem d2_init_25 : decode b2_init 25 = .ok (.aload_n 0, 1) := by decide +kernel
theorem d2_init_26 : decode b2_init 26 = .ok (.bipush 30, 2) := by decide +kernel
theorem d2_init_28 : decode b2_init 28 = .ok (.newarray .boolean, 2) := by decide +kernel
theorem d2_init_30 : decode b2_init 30 = .ok (.putfield 22, 3) := by decide +kernel
theorem d2_init_33 : decode b2_init 33 = .ok (.aload_n 0, 1) := by decide +kernel
theorem d2_init_34 : decode b2_init 34 = .ok (.bipush 30, 2) := by decide +kernel
theorem d2_init_36 : decode b2_init 36 = .ok (.newarray .int, 2) := by decide +kernel
theorem d2_init_38 : decode b2_init 38 = .ok (.putfield 26, 3) := by decide +kernel
theorem d2_init_41 : decode b2_init 41 = .ok (.aload_n 0, 1) := by decide +kernel
theorem d2_init_42 : decode b2_init 42 = .ok (.bipush 30, 2) := by decide +kernel
theorem d2_init_44 : decode b2_init 44 = .ok (.newarray .int, 2) := by decide +kernel
theorem d2_init_46 : decode b2_init 46 = .ok (.putfield 29, 3) := by decide +kernel
theorem d2_init_49 : decode b2_init 49 = .ok (.return_, 1) := by decide +kernel
abbrev b3_init : ByteArray := prog_5_method_1_code
def y3_init : MethodName := ⟨"ChannelSchedule$Setup", "<init>", "()V"⟩
theorem w3_init : YI y3_init b3_init 2 0 := ⟨LW_i 213 (by decide +kernel) (by decide +kernel), LW_i 113 (by decide +kernel) (by decide +kernel), LW_i 214 (by decide +kernel) (by decide +kernel), by decide +kernel, by decide +kernel, rfl⟩
theorem d3_init_0 : decode b3_init 0 = .ok (.aload_n 0, 1) := by decide +kernel
theorem d3_init_1 : decode b3_init 1 = .ok (.invokespecial 3, 3) := by decide +kernel
theorem d3_init_4 : decode b3_init 4 = .ok (.aload_n 0, 1) := by decide +kernel
theorem d3_init_5 : decode b3_init 5 = .ok (.iconst 0, 1) := by decide +kernel
theorem d3_init_6 : decode b3_init 6 = .ok (.putfield 9, 3) := by decide +kernel
theorem d3_init_9 : decode b3_init 9 = .ok (.aload_n 0, 1) := by decide +kernel
theorem d3_init_10 : decode b3_init 10 = .ok (.iconst 0, 1) := by decide +kernel
theorem d3_init_11 : decode b3_init 11 = .ok (.putfield 15, 3) := by decide +kernel
theorem d3_init_14 : decode b3_init 14 = .ok (.aload_n 0, 1) := by decide +kernel
theorem d3_init_15 : decode b3_init 15 = .ok (.iconst 0, 1) := by decide +kernel
theorem d3_init_16 : decode b3_init 16 = .ok (.putfield 18, 3) := by decide +kernel
theorem d3_init_19 : decode b3_init 19 = .ok (.aload_n 0, 1) := by decide +kernel
theorem d3_init_20 : decode b3_init 20 = .ok (.iconst 0, 1) := by decide +kernel
theorem d3_init_21 : decode b3_init 21 = .ok (.putfield 21, 3) := by decide +kernel
theorem d3_init_24 : decode b3_init 24 = .ok (.aload_n 0, 1) := by decide +kernel
theorem d3_init_25 : decode b3_init 25 = .ok (.bipush 10, 2) := by decide +kernel
theorem d3_init_27 : decode b3_init 27 = .ok (.anewarray 24, 3) := by decide +kernel
theorem d3_init_30 : decode b3_init 30 = .ok (.putfield 26, 3) := by decide +kernel
theorem d3_init_33 : decode b3_init 33 = .ok (.iconst 0, 1) := by decide +kernel
theorem d3_init_34 : decode b3_init 34 = .ok (.istore_n 1, 1) := by decide +kernel
theorem d3_init_35 : decode b3_init 35 = .ok (.iload_n 1, 1) := by decide +kernel
theorem d3_init_36 : decode b3_init 36 = .ok (.bipush 10, 2) := by decide +kernel
theorem d3_init_38 : decode b3_init 38 = .ok (.if_icmp .ge 22, 3) := by decide +kernel
theorem d3_init_41 : decode b3_init 41 = .ok (.aload_n 0, 1) := by decide +kernel
theorem d3_init_42 : decode b3_init 42 = .ok (.getfield 26, 3) := by decide +kernel
theorem d3_init_45 : decode b3_init 45 = .ok (.iload_n 1, 1) := by decide +kernel
theorem d3_init_46 : decode b3_init 46 = .ok (.new 24, 3) := by decide +kernel
theorem d3_init_49 : decode b3_init 49 = .ok (.dup, 1) := by decide +kernel
theorem d3_init_50 : decode b3_init 50 = .ok (.invokespecial 30, 3) := by decide +kernel
theorem d3_init_53 : decode b3_init 53 = .ok (.aastore, 1) := by decide +kernel
theorem d3_init_54 : decode b3_init 54 = .ok (.iinc 1 1, 3) := by decide +kernel
theorem d3_init_57 : decode b3_init 57 = .ok (.goto (-22), 3) := by decide +kernel
theorem d3_init_60 : decode b3_init 60 = .ok (.return_, 1) := by decide +kernel
abbrev b3_shipNamed : ByteArray := prog_5_method_2_code
def y3_shipNamed : MethodName := ⟨"ChannelSchedule$Setup", "shipNamed", "([BII)I"⟩
theorem w3_shipNamed : YV y3_shipNamed b3_shipNamed 5 (some .int) 3 := ⟨LW_i 444 (by decide +kernel) (by decide +kernel), LW_i 445 (by decide +kernel) (by decide +kernel), LW_i 113 (by decide +kernel) (by decide +kernel), LW_i 446 (by decide +kernel) (by decide +kernel), by decide +kernel, by decide +kernel⟩
theorem d3_shipNamed_0 : decode b3_shipNamed 0 = .ok (.iconst 0, 1) := by decide +kernel
theorem d3_shipNamed_1 : decode b3_shipNamed 1 = .ok (.istore 4, 2) := by decide +kernel
theorem d3_shipNamed_3 : decode b3_shipNamed 3 = .ok (.iload 4, 2) := by decide +kernel
theorem d3_shipNamed_5 : decode b3_shipNamed 5 = .ok (.aload_n 0, 1) := by decide +kernel
theorem d3_shipNamed_6 : decode b3_shipNamed 6 = .ok (.getfield 21, 3) := by decide +kernel
theorem d3_shipNamed_9 : decode b3_shipNamed 9 = .ok (.if_icmp .ge 28, 3) := by decide +kernel
theorem d3_shipNamed_12 : decode b3_shipNamed 12 = .ok (.aload_n 0, 1) := by decide +kernel
theorem d3_shipNamed_13 : decode b3_shipNamed 13 = .ok (.getfield 26, 3) := by decide +kernel
theorem d3_shipNamed_16 : decode b3_shipNamed 16 = .ok (.iload 4, 2) := by decide +kernel
theorem d3_shipNamed_18 : decode b3_shipNamed 18 = .ok (.aaload, 1) := by decide +kernel
theorem d3_shipNamed_19 : decode b3_shipNamed 19 = .ok (.aload_n 1, 1) := by decide +kernel
theorem d3_shipNamed_20 : decode b3_shipNamed 20 = .ok (.iload_n 2, 1) := by decide +kernel
theorem d3_shipNamed_21 : decode b3_shipNamed 21 = .ok (.iload_n 3, 1) := by decide +kernel
theorem d3_shipNamed_22 : decode b3_shipNamed 22 = .ok (.invokevirtual 31, 3) := by decide +kernel
theorem d3_shipNamed_25 : decode b3_shipNamed 25 = .ok (.ifCond .eq 6, 3) := by decide +kernel
theorem d3_shipNamed_28 : decode b3_shipNamed 28 = .ok (.iload 4, 2) := by decide +kernel
theorem d3_shipNamed_30 : decode b3_shipNamed 30 = .ok (.ireturn, 1) := by decide +kernel
theorem d3_shipNamed_31 : decode b3_shipNamed 31 = .ok (.iinc 4 1, 3) := by decide +kernel
theorem d3_shipNamed_34 : decode b3_shipNamed 34 = .ok (.goto (-31), 3) := by decide +kernel
theorem d3_shipNamed_37 : decode b3_shipNamed 37 = .ok (.iconst (-1), 1) := by decide +kernel
theorem d3_shipNamed_38 : decode b3_shipNamed 38 = .ok (.ireturn, 1) := by decide +kernel
abbrev b4_init : ByteArray := prog_6_method_1_code
def y4_init : MethodName := ⟨"ChannelSchedule$Ship", "<init>", "()V"⟩
theorem w4_init : YI y4_init b4_init 1 0 := ⟨LW_i 220 (by decide +kernel) (by decide +kernel), LW_i 114 (by decide +kernel) (by decide +kernel), LW_i 221 (by decide +kernel) (by decide +kernel), by decide +kernel, by decide +kernel, rfl⟩
theorem d4_init_0 : decode b4_init 0 = .ok (.aload_n 0, 1) := by decide +kernel
theorem d4_init_1 : decode b4_init 1 = .ok (.invokespecial 3, 3) := by decide +kernel
theorem d4_init_4 : decode b4_init 4 = .ok (.aload_n 0, 1) := by decide +kernel
theorem d4_init_5 : decode b4_init 5 = .ok (.bipush 6, 2) := by decide +kernel
theorem d4_init_7 : decode b4_init 7 = .ok (.newarray .byte, 2) := by decide +kernel
theorem d4_init_9 : decode b4_init 9 = .ok (.putfield 9, 3) := by decide +kernel
theorem d4_init_12 : decode b4_init 12 = .ok (.aload_n 0, 1) := by decide +kernel
theorem d4_init_13 : decode b4_init 13 = .ok (.iconst 0, 1) := by decide +kernel
theorem d4_init_14 : decode b4_init 14 = .ok (.putfield 15, 3) := by decide +kernel
theorem d4_init_17 : decode b4_init 17 = .ok (.aload_n 0, 1) := by decide +kernel
theorem d4_init_18 : decode b4_init 18 = .ok (.iconst 0, 1) := by decide +kernel
theorem d4_init_19 : decode b4_init 19 = .ok (.putfield 19, 3) := by decide +kernel
theorem d4_init_22 : decode b4_init 22 = .ok (.aload_n 0, 1) := by decide +kernel
theorem d4_init_23 : decode b4_init 23 = .ok (.iconst 0, 1) := by decide +kernel
theorem d4_init_24 : decode b4_init 24 = .ok (.putfield 22, 3) := by decide +kernel
theorem d4_init_27 : decode b4_init 27 = .ok (.aload_n 0, 1) := by decide +kernel
theorem d4_init_28 : decode b4_init 28 = .ok (.iconst 0, 1) := by decide +kernel
theorem d4_init_29 : decode b4_init 29 = .ok (.putfield 25, 3) := by decide +kernel
theorem d4_init_32 : decode b4_init 32 = .ok (.return_, 1) := by decide +kernel
abbrev b4_takeName : ByteArray := prog_6_method_2_code
def y4_takeName : MethodName := ⟨"ChannelSchedule$Ship", "takeName", "([BII)V"⟩
theorem w4_takeName : YV y4_takeName b4_takeName 5 none 3 := ⟨LW_i 452 (by decide +kernel) (by decide +kernel), LW_i 453 (by decide +kernel) (by decide +kernel), LW_i 114 (by decide +kernel) (by decide +kernel), LW_i 454 (by decide +kernel) (by decide +kernel), by decide +kernel, by decide +kernel⟩
theorem d4_takeName_0 : decode b4_takeName 0 = .ok (.aload_n 0, 1) := by decide +kernel
theorem d4_takeName_1 : decode b4_takeName 1 = .ok (.iload_n 3, 1) := by decide +kernel
theorem d4_takeName_2 : decode b4_takeName 2 = .ok (.bipush 6, 2) := by decide +kernel
theorem d4_takeName_4 : decode b4_takeName 4 = .ok (.if_icmp .ge 7, 3) := by decide +kernel
theorem d4_takeName_7 : decode b4_takeName 7 = .ok (.iload_n 3, 1) := by decide +kernel
theorem d4_takeName_8 : decode b4_takeName 8 = .ok (.goto 5, 3) := by decide +kernel
theorem d4_takeName_11 : decode b4_takeName 11 = .ok (.bipush 6, 2) := by decide +kernel
theorem d4_takeName_13 : decode b4_takeName 13 = .ok (.putfield 15, 3) := by decide +kernel
theorem d4_takeName_16 : decode b4_takeName 16 = .ok (.iconst 0, 1) := by decide +kernel
theorem d4_takeName_17 : decode b4_takeName 17 = .ok (.istore 4, 2) := by decide +kernel
theorem d4_takeName_19 : decode b4_takeName 19 = .ok (.iload 4, 2) := by decide +kernel
theorem d4_takeName_21 : decode b4_takeName 21 = .ok (.aload_n 0, 1) := by decide +kernel
theorem d4_takeName_22 : decode b4_takeName 22 = .ok (.getfield 15, 3) := by decide +kernel
theorem d4_takeName_25 : decode b4_takeName 25 = .ok (.if_icmp .ge 22, 3) := by decide +kernel
theorem d4_takeName_28 : decode b4_takeName 28 = .ok (.aload_n 0, 1) := by decide +kernel
theorem d4_takeName_29 : decode b4_takeName 29 = .ok (.getfield 9, 3) := by decide +kernel
theorem d4_takeName_32 : decode b4_takeName 32 = .ok (.iload 4, 2) := by decide +kernel
theorem d4_takeName_34 : decode b4_takeName 34 = .ok (.aload_n 1, 1) := by decide +kernel
theorem d4_takeName_35 : decode b4_takeName 35 = .ok (.iload_n 2, 1) := by decide +kernel
theorem d4_takeName_36 : decode b4_takeName 36 = .ok (.iload 4, 2) := by decide +kernel
theorem d4_takeName_38 : decode b4_takeName 38 = .ok (.iadd, 1) := by decide +kernel
theorem d4_takeName_39 : decode b4_takeName 39 = .ok (.baload, 1) := by decide +kernel
theorem d4_takeName_40 : decode b4_takeName 40 = .ok (.bastore, 1) := by decide +kernel
theorem d4_takeName_41 : decode b4_takeName 41 = .ok (.iinc 4 1, 3) := by decide +kernel
theorem d4_takeName_44 : decode b4_takeName 44 = .ok (.goto (-25), 3) := by decide +kernel
theorem d4_takeName_47 : decode b4_takeName 47 = .ok (.return_, 1) := by decide +kernel
abbrev b4_hasName : ByteArray := prog_6_method_3_code
def y4_hasName : MethodName := ⟨"ChannelSchedule$Ship", "hasName", "([BII)Z"⟩
theorem w4_hasName : YV y4_hasName b4_hasName 5 (some .boolean) 3 := ⟨LW_i 448 (by decide +kernel) (by decide +kernel), LW_i 449 (by decide +kernel) (by decide +kernel), LW_i 114 (by decide +kernel) (by decide +kernel), LW_i 450 (by decide +kernel) (by decide +kernel), by decide +kernel, by decide +kernel⟩
theorem d4_hasName_0 : decode b4_hasName 0 = .ok (.iload_n 3, 1) := by decide +kernel
theorem d4_hasName_1 : decode b4_hasName 1 = .ok (.aload_n 0, 1) := by decide +kernel
theorem d4_hasName_2 : decode b4_hasName 2 = .ok (.getfield 15, 3) := by decide +kernel
theorem d4_hasName_5 : decode b4_hasName 5 = .ok (.if_icmp .eq 5, 3) := by decide +kernel
theorem d4_hasName_8 : decode b4_hasName 8 = .ok (.iconst 0, 1) := by decide +kernel
theorem d4_hasName_9 : decode b4_hasName 9 = .ok (.ireturn, 1) := by decide +kernel
theorem d4_hasName_10 : decode b4_hasName 10 = .ok (.iconst 0, 1) := by decide +kernel
theorem d4_hasName_11 : decode b4_hasName 11 = .ok (.istore 4, 2) := by decide +kernel
theorem d4_hasName_13 : decode b4_hasName 13 = .ok (.iload 4, 2) := by decide +kernel
theorem d4_hasName_15 : decode b4_hasName 15 = .ok (.aload_n 0, 1) := by decide +kernel
theorem d4_hasName_16 : decode b4_hasName 16 = .ok (.getfield 15, 3) := by decide +kernel
theorem d4_hasName_19 : decode b4_hasName 19 = .ok (.if_icmp .ge 27, 3) := by decide +kernel
theorem d4_hasName_22 : decode b4_hasName 22 = .ok (.aload_n 0, 1) := by decide +kernel
theorem d4_hasName_23 : decode b4_hasName 23 = .ok (.getfield 9, 3) := by decide +kernel
theorem d4_hasName_26 : decode b4_hasName 26 = .ok (.iload 4, 2) := by decide +kernel
theorem d4_hasName_28 : decode b4_hasName 28 = .ok (.baload, 1) := by decide +kernel
theorem d4_hasName_29 : decode b4_hasName 29 = .ok (.aload_n 1, 1) := by decide +kernel
theorem d4_hasName_30 : decode b4_hasName 30 = .ok (.iload_n 2, 1) := by decide +kernel
theorem d4_hasName_31 : decode b4_hasName 31 = .ok (.iload 4, 2) := by decide +kernel
theorem d4_hasName_33 : decode b4_hasName 33 = .ok (.iadd, 1) := by decide +kernel
theorem d4_hasName_34 : decode b4_hasName 34 = .ok (.baload, 1) := by decide +kernel
theorem d4_hasName_35 : decode b4_hasName 35 = .ok (.if_icmp .eq 5, 3) := by decide +kernel
theorem d4_hasName_38 : decode b4_hasName 38 = .ok (.iconst 0, 1) := by decide +kernel
theorem d4_hasName_39 : decode b4_hasName 39 = .ok (.ireturn, 1) := by decide +kernel
theorem d4_hasName_40 : decode b4_hasName 40 = .ok (.iinc 4 1, 3) := by decide +kernel
theorem d4_hasName_43 : decode b4_hasName 43 = .ok (.goto (-30), 3) := by decide +kernel
theorem d4_hasName_46 : decode b4_hasName 46 = .ok (.iconst 1, 1) := by decide +kernel
theorem d4_hasName_47 : decode b4_hasName 47 = .ok (.ireturn, 1) := by decide +kernel
abbrev b5_init : ByteArray := prog_1_method_1_code
def y5_init : MethodName := ⟨"ChannelSchedule", "<init>", "()V"⟩
theorem w5_init : YI y5_init b5_init 2 0 := ⟨LW_i 132 (by decide +kernel) (by decide +kernel), LW_i 110 (by decide +kernel) (by decide +kernel), LW_i 133 (by decide +kernel) (by decide +kernel), by decide +kernel, by decide +kernel, rfl⟩
theorem d5_init_0 : decode b5_init 0 = .ok (.aload_n 0, 1) := by decide +kernel
theorem d5_init_1 : decode b5_init 1 = .ok (.invokespecial 1, 3) := by decide +kernel
theorem d5_init_4 : decode b5_init 4 = .ok (.aload_n 0, 1) := by decide +kernel
theorem d5_init_5 : decode b5_init 5 = .ok (.new 7, 3) := by decide +kernel
theorem d5_init_8 : decode b5_init 8 = .ok (.dup, 1) := by decide +kernel
theorem d5_init_9 : decode b5_init 9 = .ok (.invokespecial 9, 3) := by decide +kernel
theorem d5_init_12 : decode b5_init 12 = .ok (.putfield 10, 3) := by decide +kernel
theorem d5_init_15 : decode b5_init 15 = .ok (.aload_n 0, 1) := by decide +kernel
theorem d5_init_16 : decode b5_init 16 = .ok (.new 16, 3) := by decide +kernel
theorem d5_init_19 : decode b5_init 19 = .ok (.dup, 1) := by decide +kernel
theorem d5_init_20 : decode b5_init 20 = .ok (.invokespecial 18, 3) := by decide +kernel
theorem d5_init_23 : decode b5_init 23 = .ok (.putfield 19, 3) := by decide +kernel
theorem d5_init_26 : decode b5_init 26 = .ok (.aload_n 0, 1) := by decide +kernel
theorem d5_init_27 : decode b5_init 27 = .ok (.new 23, 3) := by decide +kernel
theorem d5_init_30 : decode b5_init 30 = .ok (.dup, 1) := by decide +kernel
theorem d5_init_31 : decode b5_init 31 = .ok (.invokespecial 25, 3) := by decide +kernel
theorem d5_init_34 : decode b5_init 34 = .ok (.putfield 26, 3) := by decide +kernel
theorem d5_init_37 : decode b5_init 37 = .ok (.aload_n 0, 1) := by decide +kernel
theorem d5_init_38 : decode b5_init 38 = .ok (.new 23, 3) := by decide +kernel
theorem d5_init_41 : decode b5_init 41 = .ok (.dup, 1) := by decide +kernel
theorem d5_init_42 : decode b5_init 42 = .ok (.invokespecial 25, 3) := by decide +kernel
theorem d5_init_45 : decode b5_init 45 = .ok (.putfield 30, 3) := by decide +kernel
theorem d5_init_48 : decode b5_init 48 = .ok (.aload_n 0, 1) := by decide +kernel
theorem d5_init_49 : decode b5_init 49 = .ok (.new 33, 3) := by decide +kernel
theorem d5_init_52 : decode b5_init 52 = .ok (.dup, 1) := by decide +kernel
theorem d5_init_53 : decode b5_init 53 = .ok (.invokespecial 35, 3) := by decide +kernel
theorem d5_init_56 : decode b5_init 56 = .ok (.putfield 36, 3) := by decide +kernel
theorem d5_init_59 : decode b5_init 59 = .ok (.aload_n 0, 1) := by decide +kernel
theorem d5_init_60 : decode b5_init 60 = .ok (.new 33, 3) := by decide +kernel
theorem d5_init_63 : decode b5_init 63 = .ok (.dup, 1) := by decide +kernel
theorem d5_init_64 : decode b5_init 64 = .ok (.invokespecial 35, 3) := by decide +kernel
theorem d5_init_67 : decode b5_init 67 = .ok (.putfield 40, 3) := by decide +kernel
theorem d5_init_70 : decode b5_init 70 = .ok (.aload_n 0, 1) := by decide +kernel
theorem d5_init_71 : decode b5_init 71 = .ok (.bipush 6, 2) := by decide +kernel
theorem d5_init_73 : decode b5_init 73 = .ok (.anewarray 33, 3) := by decide +kernel
theorem d5_init_76 : decode b5_init 76 = .ok (.putfield 43, 3) := by decide +kernel
theorem d5_init_79 : decode b5_init 79 = .ok (.aload_n 0, 1) := by decide +kernel
theorem d5_init_80 : decode b5_init 80 = .ok (.iconst 0, 1) := by decide +kernel
theorem d5_init_81 : decode b5_init 81 = .ok (.putfield 47, 3) := by decide +kernel
theorem d5_init_84 : decode b5_init 84 = .ok (.aload_n 0, 1) := by decide +kernel
theorem d5_init_85 : decode b5_init 85 = .ok (.iconst 0, 1) := by decide +kernel
theorem d5_init_86 : decode b5_init 86 = .ok (.putfield 51, 3) := by decide +kernel
theorem d5_init_89 : decode b5_init 89 = .ok (.aload_n 0, 1) := by decide +kernel
theorem d5_init_90 : decode b5_init 90 = .ok (.iconst 2, 1) := by decide +kernel
theorem d5_init_91 : decode b5_init 91 = .ok (.anewarray 33, 3) := by decide +kernel
theorem d5_init_94 : decode b5_init 94 = .ok (.putfield 54, 3) := by decide +kernel
theorem d5_init_97 : decode b5_init 97 = .ok (.aload_n 0, 1) := by decide +kernel
theorem d5_init_98 : decode b5_init 98 = .ok (.iconst 2, 1) := by decide +kernel
theorem d5_init_99 : decode b5_init 99 = .ok (.newarray .boolean, 2) := by decide +kernel
theorem d5_init_101 : decode b5_init 101 = .ok (.putfield 57, 3) := by decide +kernel
theorem d5_init_104 : decode b5_init 104 = .ok (.aload_n 0, 1) := by decide +kernel
theorem d5_init_105 : decode b5_init 105 = .ok (.bipush 8, 2) := by decide +kernel
theorem d5_init_107 : decode b5_init 107 = .ok (.newarray .int, 2) := by decide +kernel
theorem d5_init_109 : decode b5_init 109 = .ok (.putfield 61, 3) := by decide +kernel
theorem d5_init_112 : decode b5_init 112 = .ok (.aload_n 0, 1) := by decide +kernel
theorem d5_init_113 : decode b5_init 113 = .ok (.sipush 320, 3) := by decide +kernel
theorem d5_init_116 : decode b5_init 116 = .ok (.newarray .byte, 2) := by decide +kernel
theorem d5_init_118 : decode b5_init 118 = .ok (.putfield 65, 3) := by decide +kernel
theorem d5_init_121 : decode b5_init 121 = .ok (.aload_n 0, 1) := by decide +kernel
theorem d5_init_122 : decode b5_init 122 = .ok (.iconst 0, 1) := by decide +kernel
theorem d5_init_123 : decode b5_init 123 = .ok (.putfield 69, 3) := by decide +kernel
theorem d5_init_126 : decode b5_init 126 = .ok (.iconst 0, 1) := by decide +kernel
theorem d5_init_127 : decode b5_init 127 = .ok (.istore_n 1, 1) := by decide +kernel
theorem d5_init_128 : decode b5_init 128 = .ok (.iload_n 1, 1) := by decide +kernel
theorem d5_init_129 : decode b5_init 129 = .ok (.bipush 6, 2) := by decide +kernel
theorem d5_init_131 : decode b5_init 131 = .ok (.if_icmp .ge 22, 3) := by decide +kernel
theorem d5_init_134 : decode b5_init 134 = .ok (.aload_n 0, 1) := by decide +kernel
theorem d5_init_135 : decode b5_init 135 = .ok (.getfield 43, 3) := by decide +kernel
theorem d5_init_138 : decode b5_init 138 = .ok (.iload_n 1, 1) := by decide +kernel
theorem d5_init_139 : decode b5_init 139 = .ok (.new 33, 3) := by decide +kernel
theorem d5_init_142 : decode b5_init 142 = .ok (.dup, 1) := by decide +kernel
theorem d5_init_143 : decode b5_init 143 = .ok (.invokespecial 35, 3) := by decide +kernel
theorem d5_init_146 : decode b5_init 146 = .ok (.aastore, 1) := by decide +kernel
theorem d5_init_147 : decode b5_init 147 = .ok (.iinc 1 1, 3) := by decide +kernel
theorem d5_init_150 : decode b5_init 150 = .ok (.goto (-22), 3) := by decide +kernel
theorem d5_init_153 : decode b5_init 153 = .ok (.iconst 0, 1) := by decide +kernel
theorem d5_init_154 : decode b5_init 154 = .ok (.istore_n 1, 1) := by decide +kernel
theorem d5_init_155 : decode b5_init 155 = .ok (.iload_n 1, 1) := by decide +kernel
theorem d5_init_156 : decode b5_init 156 = .ok (.iconst 2, 1) := by decide +kernel
theorem d5_init_157 : decode b5_init 157 = .ok (.if_icmp .ge 22, 3) := by decide +kernel
theorem d5_init_160 : decode b5_init 160 = .ok (.aload_n 0, 1) := by decide +kernel
theorem d5_init_161 : decode b5_init 161 = .ok (.getfield 54, 3) := by decide +kernel
theorem d5_init_164 : decode b5_init 164 = .ok (.iload_n 1, 1) := by decide +kernel
theorem d5_init_165 : decode b5_init 165 = .ok (.new 33, 3) := by decide +kernel
theorem d5_init_168 : decode b5_init 168 = .ok (.dup, 1) := by decide +kernel
theorem d5_init_169 : decode b5_init 169 = .ok (.invokespecial 35, 3) := by decide +kernel
theorem d5_init_172 : decode b5_init 172 = .ok (.aastore, 1) := by decide +kernel
theorem d5_init_173 : decode b5_init 173 = .ok (.iinc 1 1, 3) := by decide +kernel
theorem d5_init_176 : decode b5_init 176 = .ok (.goto (-21), 3) := by decide +kernel
theorem d5_init_179 : decode b5_init 179 = .ok (.iconst 0, 1) := by decide +kernel
theorem d5_init_180 : decode b5_init 180 = .ok (.istore_n 1, 1) := by decide +kernel
theorem d5_init_181 : decode b5_init 181 = .ok (.iload_n 1, 1) := by decide +kernel
theorem d5_init_182 : decode b5_init 182 = .ok (.ldc 72, 2) := by decide +kernel
theorem d5_init_184 : decode b5_init 184 = .ok (.invokevirtual 74, 3) := by decide +kernel
theorem d5_init_187 : decode b5_init 187 = .ok (.if_icmp .ge 22, 3) := by decide +kernel
theorem d5_init_190 : decode b5_init 190 = .ok (.aload_n 0, 1) := by decide +kernel
theorem d5_init_191 : decode b5_init 191 = .ok (.getfield 10, 3) := by decide +kernel
theorem d5_init_194 : decode b5_init 194 = .ok (.ldc 72, 2) := by decide +kernel
theorem d5_init_196 : decode b5_init 196 = .ok (.iload_n 1, 1) := by decide +kernel
theorem d5_init_197 : decode b5_init 197 = .ok (.invokevirtual 80, 3) := by decide +kernel
theorem d5_init_200 : decode b5_init 200 = .ok (.invokevirtual 84, 3) := by decide +kernel
theorem d5_init_203 : decode b5_init 203 = .ok (.iinc 1 1, 3) := by decide +kernel
theorem d5_init_206 : decode b5_init 206 = .ok (.goto (-25), 3) := by decide +kernel
theorem d5_init_209 : decode b5_init 209 = .ok (.aload_n 0, 1) := by decide +kernel
theorem d5_init_210 : decode b5_init 210 = .ok (.invokevirtual 88, 3) := by decide +kernel
theorem d5_init_213 : decode b5_init 213 = .ok (.ifCond .eq 7, 3) := by decide +kernel
theorem d5_init_216 : decode b5_init 216 = .ok (.aload_n 0, 1) := by decide +kernel
theorem d5_init_217 : decode b5_init 217 = .ok (.invokevirtual 92, 3) := by decide +kernel
theorem d5_init_220 : decode b5_init 220 = .ok (.aload_n 0, 1) := by decide +kernel
theorem d5_init_221 : decode b5_init 221 = .ok (.getfield 10, 3) := by decide +kernel
theorem d5_init_224 : decode b5_init 224 = .ok (.iconst 0, 1) := by decide +kernel
theorem d5_init_225 : decode b5_init 225 = .ok (.putfield 95, 3) := by decide +kernel
theorem d5_init_228 : decode b5_init 228 = .ok (.return_, 1) := by decide +kernel
abbrev b5_append : ByteArray := prog_1_method_2_code
def y5_append : MethodName := ⟨"ChannelSchedule", "append", "(IIIII)I"⟩
theorem w5_append : YV y5_append b5_append 6 (some .int) 5 := ⟨LW_i 658 (by decide +kernel) (by decide +kernel), LW_i 659 (by decide +kernel) (by decide +kernel), LW_i 110 (by decide +kernel) (by decide +kernel), LW_i 660 (by decide +kernel) (by decide +kernel), by decide +kernel, by decide +kernel⟩
theorem d5_append_0 : decode b5_append 0 = .ok (.aload_n 0, 1) := by decide +kernel
theorem d5_append_1 : decode b5_append 1 = .ok (.getfield 10, 3) := by decide +kernel
theorem d5_append_4 : decode b5_append 4 = .ok (.getfield 95, 3) := by decide +kernel
theorem d5_append_7 : decode b5_append 7 = .ok (.bipush 20, 2) := by decide +kernel
theorem d5_append_9 : decode b5_append 9 = .ok (.iadd, 1) := by decide +kernel
theorem d5_append_10 : decode b5_append 10 = .ok (.sipush 600, 3) := by decide +kernel
theorem d5_append_13 : decode b5_append 13 = .ok (.if_icmp .gt 7, 3) := by decide +kernel
theorem d5_append_16 : decode b5_append 16 = .ok (.iconst 1, 1) := by decide +kernel
theorem d5_append_17 : decode b5_append 17 = .ok (.goto 4, 3) := by decide +kernel
theorem d5_append_20 : decode b5_append 20 = .ok (.iconst 0, 1) := by decide +kernel
theorem d5_append_21 : decode b5_append 21 = .ok (.invokestatic 97, 3) := by decide +kernel
theorem d5_append_24 : decode b5_append 24 = .ok (.aload_n 0, 1) := by decide +kernel
theorem d5_append_25 : decode b5_append 25 = .ok (.getfield 10, 3) := by decide +kernel
theorem d5_append_28 : decode b5_append 28 = .ok (.iload_n 1, 1) := by decide +kernel
theorem d5_append_29 : decode b5_append 29 = .ok (.invokevirtual 101, 3) := by decide +kernel
theorem d5_append_32 : decode b5_append 32 = .ok (.aload_n 0, 1) := by decide +kernel
theorem d5_append_33 : decode b5_append 33 = .ok (.getfield 10, 3) := by decide +kernel
theorem d5_append_36 : decode b5_append 36 = .ok (.iload_n 2, 1) := by decide +kernel
theorem d5_append_37 : decode b5_append 37 = .ok (.invokevirtual 101, 3) := by decide +kernel
theorem d5_append_40 : decode b5_append 40 = .ok (.aload_n 0, 1) := by decide +kernel
theorem d5_append_41 : decode b5_append 41 = .ok (.getfield 10, 3) := by decide +kernel
theorem d5_append_44 : decode b5_append 44 = .ok (.iload_n 3, 1) := by decide +kernel
theorem d5_append_45 : decode b5_append 45 = .ok (.invokevirtual 101, 3) := by decide +kernel
theorem d5_append_48 : decode b5_append 48 = .ok (.aload_n 0, 1) := by decide +kernel
theorem d5_append_49 : decode b5_append 49 = .ok (.getfield 10, 3) := by decide +kernel
theorem d5_append_52 : decode b5_append 52 = .ok (.iload 4, 2) := by decide +kernel
theorem d5_append_54 : decode b5_append 54 = .ok (.invokevirtual 101, 3) := by decide +kernel
theorem d5_append_57 : decode b5_append 57 = .ok (.aload_n 0, 1) := by decide +kernel
theorem d5_append_58 : decode b5_append 58 = .ok (.getfield 10, 3) := by decide +kernel
theorem d5_append_61 : decode b5_append 61 = .ok (.iload 5, 2) := by decide +kernel
theorem d5_append_63 : decode b5_append 63 = .ok (.invokevirtual 101, 3) := by decide +kernel
theorem d5_append_66 : decode b5_append 66 = .ok (.aload_n 0, 1) := by decide +kernel
theorem d5_append_67 : decode b5_append 67 = .ok (.getfield 10, 3) := by decide +kernel
theorem d5_append_70 : decode b5_append 70 = .ok (.getfield 95, 3) := by decide +kernel
theorem d5_append_73 : decode b5_append 73 = .ok (.ireturn, 1) := by decide +kernel
abbrev b5_truncate : ByteArray := prog_1_method_3_code
def y5_truncate : MethodName := ⟨"ChannelSchedule", "truncate", "(I)I"⟩
theorem w5_truncate : YV y5_truncate b5_truncate 2 (some .int) 1 := ⟨LW_i 738 (by decide +kernel) (by decide +kernel), LW_i 739 (by decide +kernel) (by decide +kernel), LW_i 110 (by decide +kernel) (by decide +kernel), LW_i 740 (by decide +kernel) (by decide +kernel), by decide +kernel, by decide +kernel⟩
theorem d5_truncate_0 : decode b5_truncate 0 = .ok (.iload_n 1, 1) := by decide +kernel
theorem d5_truncate_1 : decode b5_truncate 1 = .ok (.iconst 0, 1) := by decide +kernel
theorem d5_truncate_2 : decode b5_truncate 2 = .ok (.aload_n 0, 1) := by decide +kernel
theorem d5_truncate_3 : decode b5_truncate 3 = .ok (.getfield 10, 3) := by decide +kernel
theorem d5_truncate_6 : decode b5_truncate 6 = .ok (.getfield 95, 3) := by decide +kernel
theorem d5_truncate_9 : decode b5_truncate 9 = .ok (.invokestatic 104, 3) := by decide +kernel
theorem d5_truncate_12 : decode b5_truncate 12 = .ok (.invokestatic 108, 3) := by decide +kernel
theorem d5_truncate_15 : decode b5_truncate 15 = .ok (.aload_n 0, 1) := by decide +kernel
theorem d5_truncate_16 : decode b5_truncate 16 = .ok (.getfield 10, 3) := by decide +kernel
theorem d5_truncate_19 : decode b5_truncate 19 = .ok (.iload_n 1, 1) := by decide +kernel
theorem d5_truncate_20 : decode b5_truncate 20 = .ok (.putfield 95, 3) := by decide +kernel
theorem d5_truncate_23 : decode b5_truncate 23 = .ok (.iload_n 1, 1) := by decide +kernel
theorem d5_truncate_24 : decode b5_truncate 24 = .ok (.ireturn, 1) := by decide +kernel
abbrev b5_load : ByteArray := prog_1_method_4_code
def y5_load : MethodName := ⟨"ChannelSchedule", "load", "()I"⟩
theorem w5_load : YV y5_load b5_load 2 (some .int) 0 := ⟨LW_i 766 (by decide +kernel) (by decide +kernel), LW_i 767 (by decide +kernel) (by decide +kernel), LW_i 110 (by decide +kernel) (by decide +kernel), LW_i 768 (by decide +kernel) (by decide +kernel), by decide +kernel, by decide +kernel⟩
theorem d5_load_0 : decode b5_load 0 = .ok (.aload_n 0, 1) := by decide +kernel
theorem d5_load_1 : decode b5_load 1 = .ok (.invokevirtual 88, 3) := by decide +kernel
theorem d5_load_4 : decode b5_load 4 = .ok (.istore_n 1, 1) := by decide +kernel
theorem d5_load_5 : decode b5_load 5 = .ok (.aload_n 0, 1) := by decide +kernel
theorem d5_load_6 : decode b5_load 6 = .ok (.getfield 10, 3) := by decide +kernel
theorem d5_load_9 : decode b5_load 9 = .ok (.iconst 0, 1) := by decide +kernel
theorem d5_load_10 : decode b5_load 10 = .ok (.putfield 95, 3) := by decide +kernel
theorem d5_load_13 : decode b5_load 13 = .ok (.iload_n 1, 1) := by decide +kernel
theorem d5_load_14 : decode b5_load 14 = .ok (.invokestatic 108, 3) := by decide +kernel
theorem d5_load_17 : decode b5_load 17 = .ok (.aload_n 0, 1) := by decide +kernel
theorem d5_load_18 : decode b5_load 18 = .ok (.invokevirtual 92, 3) := by decide +kernel
theorem d5_load_21 : decode b5_load 21 = .ok (.aload_n 0, 1) := by decide +kernel
theorem d5_load_22 : decode b5_load 22 = .ok (.getfield 26, 3) := by decide +kernel
theorem d5_load_25 : decode b5_load 25 = .ok (.getfield 111, 3) := by decide +kernel
theorem d5_load_28 : decode b5_load 28 = .ok (.ireturn, 1) := by decide +kernel
abbrev b5_errorCode : ByteArray := prog_1_method_5_code
def y5_errorCode : MethodName := ⟨"ChannelSchedule", "errorCode", "()I"⟩
theorem w5_errorCode : YV y5_errorCode b5_errorCode 1 (some .int) 0 := ⟨LW_i 508 (by decide +kernel) (by decide +kernel), LW_i 509 (by decide +kernel) (by decide +kernel), LW_i 110 (by decide +kernel) (by decide +kernel), LW_i 510 (by decide +kernel) (by decide +kernel), by decide +kernel, by decide +kernel⟩
theorem d5_errorCode_0 : decode b5_errorCode 0 = .ok (.aload_n 0, 1) := by decide +kernel
theorem d5_errorCode_1 : decode b5_errorCode 1 = .ok (.getfield 10, 3) := by decide +kernel
theorem d5_errorCode_4 : decode b5_errorCode 4 = .ok (.getfield 114, 3) := by decide +kernel
theorem d5_errorCode_7 : decode b5_errorCode 7 = .ok (.ireturn, 1) := by decide +kernel
abbrev b5_errorPosition : ByteArray := prog_1_method_6_code
def y5_errorPosition : MethodName := ⟨"ChannelSchedule", "errorPosition", "()I"⟩
theorem w5_errorPosition : YV y5_errorPosition b5_errorPosition 1 (some .int) 0 := ⟨LW_i 512 (by decide +kernel) (by decide +kernel), LW_i 513 (by decide +kernel) (by decide +kernel), LW_i 110 (by decide +kernel) (by decide +kernel), LW_i 514 (by decide +kernel) (by decide +kernel), by decide +kernel, by decide +kernel⟩
theorem d5_errorPosition_0 : decode b5_errorPosition 0 = .ok (.aload_n 0, 1) := by decide +kernel
theorem d5_errorPosition_1 : decode b5_errorPosition 1 = .ok (.getfield 10, 3) := by decide +kernel
theorem d5_errorPosition_4 : decode b5_errorPosition 4 = .ok (.getfield 117, 3) := by decide +kernel
theorem d5_errorPosition_7 : decode b5_errorPosition 7 = .ok (.ireturn, 1) := by decide +kernel
abbrev b5_shipCount : ByteArray := prog_1_method_7_code
def y5_shipCount : MethodName := ⟨"ChannelSchedule", "shipCount", "()I"⟩
theorem w5_shipCount : YV y5_shipCount b5_shipCount 1 (some .int) 0 := ⟨LW_i 516 (by decide +kernel) (by decide +kernel), LW_i 517 (by decide +kernel) (by decide +kernel), LW_i 110 (by decide +kernel) (by decide +kernel), LW_i 518 (by decide +kernel) (by decide +kernel), by decide +kernel, by decide +kernel⟩
theorem d5_shipCount_0 : decode b5_shipCount 0 = .ok (.aload_n 0, 1) := by decide +kernel
theorem d5_shipCount_1 : decode b5_shipCount 1 = .ok (.getfield 26, 3) := by decide +kernel
theorem d5_shipCount_4 : decode b5_shipCount 4 = .ok (.getfield 111, 3) := by decide +kernel
theorem d5_shipCount_7 : decode b5_shipCount 7 = .ok (.ireturn, 1) := by decide +kernel
abbrev b5_headway : ByteArray := prog_1_method_8_code
def y5_headway : MethodName := ⟨"ChannelSchedule", "headway", "()I"⟩
theorem w5_headway : YV y5_headway b5_headway 1 (some .int) 0 := ⟨LW_i 520 (by decide +kernel) (by decide +kernel), LW_i 521 (by decide +kernel) (by decide +kernel), LW_i 110 (by decide +kernel) (by decide +kernel), LW_i 522 (by decide +kernel) (by decide +kernel), by decide +kernel, by decide +kernel⟩
theorem d5_headway_0 : decode b5_headway 0 = .ok (.aload_n 0, 1) := by decide +kernel
theorem d5_headway_1 : decode b5_headway 1 = .ok (.getfield 26, 3) := by decide +kernel
theorem d5_headway_4 : decode b5_headway 4 = .ok (.getfield 120, 3) := by decide +kernel
theorem d5_headway_7 : decode b5_headway 7 = .ok (.ireturn, 1) := by decide +kernel
abbrev b5_clearance : ByteArray := prog_1_method_9_code
def y5_clearance : MethodName := ⟨"ChannelSchedule", "clearance", "()I"⟩
theorem w5_clearance : YV y5_clearance b5_clearance 1 (some .int) 0 := ⟨LW_i 524 (by decide +kernel) (by decide +kernel), LW_i 525 (by decide +kernel) (by decide +kernel), LW_i 110 (by decide +kernel) (by decide +kernel), LW_i 526 (by decide +kernel) (by decide +kernel), by decide +kernel, by decide +kernel⟩
theorem d5_clearance_0 : decode b5_clearance 0 = .ok (.aload_n 0, 1) := by decide +kernel
theorem d5_clearance_1 : decode b5_clearance 1 = .ok (.getfield 26, 3) := by decide +kernel
theorem d5_clearance_4 : decode b5_clearance 4 = .ok (.getfield 123, 3) := by decide +kernel
theorem d5_clearance_7 : decode b5_clearance 7 = .ok (.ireturn, 1) := by decide +kernel
abbrev b5_thickness : ByteArray := prog_1_method_10_code
def y5_thickness : MethodName := ⟨"ChannelSchedule", "thickness", "()I"⟩
theorem w5_thickness : YV y5_thickness b5_thickness 1 (some .int) 0 := ⟨LW_i 528 (by decide +kernel) (by decide +kernel), LW_i 529 (by decide +kernel) (by decide +kernel), LW_i 110 (by decide +kernel) (by decide +kernel), LW_i 530 (by decide +kernel) (by decide +kernel), by decide +kernel, by decide +kernel⟩
theorem d5_thickness_0 : decode b5_thickness 0 = .ok (.aload_n 0, 1) := by decide +kernel
theorem d5_thickness_1 : decode b5_thickness 1 = .ok (.getfield 36, 3) := by decide +kernel
theorem d5_thickness_4 : decode b5_thickness 4 = .ok (.getfield 126, 3) := by decide +kernel
theorem d5_thickness_7 : decode b5_thickness 7 = .ok (.ireturn, 1) := by decide +kernel
abbrev b5_minute : ByteArray := prog_1_method_11_code
def y5_minute : MethodName := ⟨"ChannelSchedule", "minute", "()I"⟩
theorem w5_minute : YV y5_minute b5_minute 1 (some .int) 0 := ⟨LW_i 532 (by decide +kernel) (by decide +kernel), LW_i 533 (by decide +kernel) (by decide +kernel), LW_i 110 (by decide +kernel) (by decide +kernel), LW_i 534 (by decide +kernel) (by decide +kernel), by decide +kernel, by decide +kernel⟩
theorem d5_minute_0 : decode b5_minute 0 = .ok (.aload_n 0, 1) := by decide +kernel
theorem d5_minute_1 : decode b5_minute 1 = .ok (.getfield 36, 3) := by decide +kernel
theorem d5_minute_4 : decode b5_minute 4 = .ok (.getfield 129, 3) := by decide +kernel
theorem d5_minute_7 : decode b5_minute 7 = .ok (.ireturn, 1) := by decide +kernel
abbrev b5_transitTime : ByteArray := prog_1_method_12_code
def y5_transitTime : MethodName := ⟨"ChannelSchedule", "transitTime", "(I)I"⟩
theorem w5_transitTime : YV y5_transitTime b5_transitTime 2 (some .int) 1 := ⟨LW_i 774 (by decide +kernel) (by decide +kernel), LW_i 775 (by decide +kernel) (by decide +kernel), LW_i 110 (by decide +kernel) (by decide +kernel), LW_i 776 (by decide +kernel) (by decide +kernel), by decide +kernel, by decide +kernel⟩
theorem d5_transitTime_0 : decode b5_transitTime 0 = .ok (.aload_n 0, 1) := by decide +kernel
theorem d5_transitTime_1 : decode b5_transitTime 1 = .ok (.iload_n 1, 1) := by decide +kernel
theorem d5_transitTime_2 : decode b5_transitTime 2 = .ok (.invokevirtual 132, 3) := by decide +kernel
theorem d5_transitTime_5 : decode b5_transitTime 5 = .ok (.invokestatic 136, 3) := by decide +kernel
theorem d5_transitTime_8 : decode b5_transitTime 8 = .ok (.aload_n 0, 1) := by decide +kernel
theorem d5_transitTime_9 : decode b5_transitTime 9 = .ok (.iload_n 1, 1) := by decide +kernel
theorem d5_transitTime_10 : decode b5_transitTime 10 = .ok (.invokevirtual 139, 3) := by decide +kernel
theorem d5_transitTime_13 : decode b5_transitTime 13 = .ok (.ireturn, 1) := by decide +kernel
abbrev b5_iceClass : ByteArray := prog_1_method_13_code
def y5_iceClass : MethodName := ⟨"ChannelSchedule", "iceClass", "(I)I"⟩
theorem w5_iceClass : YV y5_iceClass b5_iceClass 2 (some .int) 1 := ⟨LW_i 806 (by decide +kernel) (by decide +kernel), LW_i 807 (by decide +kernel) (by decide +kernel), LW_i 110 (by decide +kernel) (by decide +kernel), LW_i 808 (by decide +kernel) (by decide +kernel), by decide +kernel, by decide +kernel⟩
theorem d5_iceClass_0 : decode b5_iceClass 0 = .ok (.aload_n 0, 1) := by decide +kernel
theorem d5_iceClass_1 : decode b5_iceClass 1 = .ok (.iload_n 1, 1) := by decide +kernel
theorem d5_iceClass_2 : decode b5_iceClass 2 = .ok (.invokevirtual 132, 3) := by decide +kernel
theorem d5_iceClass_5 : decode b5_iceClass 5 = .ok (.invokestatic 136, 3) := by decide +kernel
theorem d5_iceClass_8 : decode b5_iceClass 8 = .ok (.aload_n 0, 1) := by decide +kernel
theorem d5_iceClass_9 : decode b5_iceClass 9 = .ok (.getfield 26, 3) := by decide +kernel
theorem d5_iceClass_12 : decode b5_iceClass 12 = .ok (.getfield 143, 3) := by decide +kernel
theorem d5_iceClass_15 : decode b5_iceClass 15 = .ok (.iload_n 1, 1) := by decide +kernel
theorem d5_iceClass_16 : decode b5_iceClass 16 = .ok (.aaload, 1) := by decide +kernel
theorem d5_iceClass_17 : decode b5_iceClass 17 = .ok (.getfield 147, 3) := by decide +kernel
theorem d5_iceClass_20 : decode b5_iceClass 20 = .ok (.ireturn, 1) := by decide +kernel
abbrev b5_weight : ByteArray := prog_1_method_14_code
def y5_weight : MethodName := ⟨"ChannelSchedule", "weight", "(I)I"⟩
theorem w5_weight : YV y5_weight b5_weight 2 (some .int) 1 := ⟨LW_i 813 (by decide +kernel) (by decide +kernel), LW_i 814 (by decide +kernel) (by decide +kernel), LW_i 110 (by decide +kernel) (by decide +kernel), LW_i 815 (by decide +kernel) (by decide +kernel), by decide +kernel, by decide +kernel⟩
theorem d5_weight_0 : decode b5_weight 0 = .ok (.aload_n 0, 1) := by decide +kernel
theorem d5_weight_1 : decode b5_weight 1 = .ok (.iload_n 1, 1) := by decide +kernel
theorem d5_weight_2 : decode b5_weight 2 = .ok (.invokevirtual 132, 3) := by decide +kernel
theorem d5_weight_5 : decode b5_weight 5 = .ok (.invokestatic 136, 3) := by decide +kernel
theorem d5_weight_8 : decode b5_weight 8 = .ok (.aload_n 0, 1) := by decide +kernel
theorem d5_weight_9 : decode b5_weight 9 = .ok (.getfield 26, 3) := by decide +kernel
theorem d5_weight_12 : decode b5_weight 12 = .ok (.getfield 143, 3) := by decide +kernel
theorem d5_weight_15 : decode b5_weight 15 = .ok (.iload_n 1, 1) := by decide +kernel
theorem d5_weight_16 : decode b5_weight 16 = .ok (.aaload, 1) := by decide +kernel
theorem d5_weight_17 : decode b5_weight 17 = .ok (.getfield 152, 3) := by decide +kernel
theorem d5_weight_20 : decode b5_weight 20 = .ok (.ireturn, 1) := by decide +kernel
abbrev b5_shipNameByte : ByteArray := prog_1_method_15_code
def y5_shipNameByte : MethodName := ⟨"ChannelSchedule", "shipNameByte", "(II)I"⟩
theorem w5_shipNameByte : YV y5_shipNameByte b5_shipNameByte 4 (some .int) 2 := ⟨LW_i 820 (by decide +kernel) (by decide +kernel), LW_i 821 (by decide +kernel) (by decide +kernel), LW_i 110 (by decide +kernel) (by decide +kernel), LW_i 822 (by decide +kernel) (by decide +kernel), by decide +kernel, by decide +kernel⟩
theorem d5_shipNameByte_0 : decode b5_shipNameByte 0 = .ok (.aload_n 0, 1) := by decide +kernel
theorem d5_shipNameByte_1 : decode b5_shipNameByte 1 = .ok (.iload_n 1, 1) := by decide +kernel
theorem d5_shipNameByte_2 : decode b5_shipNameByte 2 = .ok (.invokevirtual 132, 3) := by decide +kernel
theorem d5_shipNameByte_5 : decode b5_shipNameByte 5 = .ok (.invokestatic 136, 3) := by decide +kernel
theorem d5_shipNameByte_8 : decode b5_shipNameByte 8 = .ok (.aload_n 0, 1) := by decide +kernel
theorem d5_shipNameByte_9 : decode b5_shipNameByte 9 = .ok (.getfield 26, 3) := by decide +kernel
theorem d5_shipNameByte_12 : decode b5_shipNameByte 12 = .ok (.getfield 143, 3) := by decide +kernel
theorem d5_shipNameByte_15 : decode b5_shipNameByte 15 = .ok (.iload_n 1, 1) := by decide +kernel
theorem d5_shipNameByte_16 : decode b5_shipNameByte 16 = .ok (.aaload, 1) := by decide +kernel
theorem d5_shipNameByte_17 : decode b5_shipNameByte 17 = .ok (.astore_n 3, 1) := by decide +kernel
theorem d5_shipNameByte_18 : decode b5_shipNameByte 18 = .ok (.iload_n 2, 1) := by decide +kernel
theorem d5_shipNameByte_19 : decode b5_shipNameByte 19 = .ok (.aload_n 3, 1) := by decide +kernel
theorem d5_shipNameByte_20 : decode b5_shipNameByte 20 = .ok (.getfield 155, 3) := by decide +kernel
theorem d5_shipNameByte_23 : decode b5_shipNameByte 23 = .ok (.invokestatic 158, 3) := by decide +kernel
theorem d5_shipNameByte_26 : decode b5_shipNameByte 26 = .ok (.invokestatic 136, 3) := by decide +kernel
theorem d5_shipNameByte_29 : decode b5_shipNameByte 29 = .ok (.aload_n 3, 1) := by decide +kernel
theorem d5_shipNameByte_30 : decode b5_shipNameByte 30 = .ok (.getfield 162, 3) := by decide +kernel
theorem d5_shipNameByte_33 : decode b5_shipNameByte 33 = .ok (.iload_n 2, 1) := by decide +kernel
theorem d5_shipNameByte_34 : decode b5_shipNameByte 34 = .ok (.baload, 1) := by decide +kernel
theorem d5_shipNameByte_35 : decode b5_shipNameByte 35 = .ok (.ireturn, 1) := by decide +kernel
abbrev b5_findShip : ByteArray := prog_1_method_16_code
def y5_findShip : MethodName := ⟨"ChannelSchedule", "findShip", "()I"⟩
theorem w5_findShip : YV y5_findShip b5_findShip 2 (some .int) 0 := ⟨LW_i 828 (by decide +kernel) (by decide +kernel), LW_i 829 (by decide +kernel) (by decide +kernel), LW_i 110 (by decide +kernel) (by decide +kernel), LW_i 830 (by decide +kernel) (by decide +kernel), by decide +kernel, by decide +kernel⟩
theorem d5_findShip_0 : decode b5_findShip 0 = .ok (.aload_n 0, 1) := by decide +kernel
theorem d5_findShip_1 : decode b5_findShip 1 = .ok (.getfield 26, 3) := by decide +kernel
theorem d5_findShip_4 : decode b5_findShip 4 = .ok (.aload_n 0, 1) := by decide +kernel
theorem d5_findShip_5 : decode b5_findShip 5 = .ok (.getfield 10, 3) := by decide +kernel
theorem d5_findShip_8 : decode b5_findShip 8 = .ok (.getfield 165, 3) := by decide +kernel
theorem d5_findShip_11 : decode b5_findShip 11 = .ok (.iconst 0, 1) := by decide +kernel
theorem d5_findShip_12 : decode b5_findShip 12 = .ok (.aload_n 0, 1) := by decide +kernel
theorem d5_findShip_13 : decode b5_findShip 13 = .ok (.getfield 10, 3) := by decide +kernel
theorem d5_findShip_16 : decode b5_findShip 16 = .ok (.getfield 95, 3) := by decide +kernel
theorem d5_findShip_19 : decode b5_findShip 19 = .ok (.invokevirtual 168, 3) := by decide +kernel
theorem d5_findShip_22 : decode b5_findShip 22 = .ok (.istore_n 1, 1) := by decide +kernel
theorem d5_findShip_23 : decode b5_findShip 23 = .ok (.iload_n 1, 1) := by decide +kernel
theorem d5_findShip_24 : decode b5_findShip 24 = .ok (.iconst (-1), 1) := by decide +kernel
theorem d5_findShip_25 : decode b5_findShip 25 = .ok (.if_icmp .eq 7, 3) := by decide +kernel
theorem d5_findShip_28 : decode b5_findShip 28 = .ok (.iconst 1, 1) := by decide +kernel
theorem d5_findShip_29 : decode b5_findShip 29 = .ok (.goto 4, 3) := by decide +kernel
theorem d5_findShip_32 : decode b5_findShip 32 = .ok (.iconst 0, 1) := by decide +kernel
theorem d5_findShip_33 : decode b5_findShip 33 = .ok (.invokestatic 172, 3) := by decide +kernel
theorem d5_findShip_36 : decode b5_findShip 36 = .ok (.iload_n 1, 1) := by decide +kernel
theorem d5_findShip_37 : decode b5_findShip 37 = .ok (.ireturn, 1) := by decide +kernel
abbrev b5_bookingCount : ByteArray := prog_1_method_17_code
def y5_bookingCount : MethodName := ⟨"ChannelSchedule", "bookingCount", "()I"⟩
theorem w5_bookingCount : YV y5_bookingCount b5_bookingCount 1 (some .int) 0 := ⟨LW_i 536 (by decide +kernel) (by decide +kernel), LW_i 537 (by decide +kernel) (by decide +kernel), LW_i 110 (by decide +kernel) (by decide +kernel), LW_i 538 (by decide +kernel) (by decide +kernel), by decide +kernel, by decide +kernel⟩
theorem d5_bookingCount_0 : decode b5_bookingCount 0 = .ok (.aload_n 0, 1) := by decide +kernel
theorem d5_bookingCount_1 : decode b5_bookingCount 1 = .ok (.getfield 36, 3) := by decide +kernel
theorem d5_bookingCount_4 : decode b5_bookingCount 4 = .ok (.getfield 175, 3) := by decide +kernel
theorem d5_bookingCount_7 : decode b5_bookingCount 7 = .ok (.ireturn, 1) := by decide +kernel
abbrev b5_bookedShip : ByteArray := prog_1_method_18_code
def y5_bookedShip : MethodName := ⟨"ChannelSchedule", "bookedShip", "(I)I"⟩
theorem w5_bookedShip : YV y5_bookedShip b5_bookedShip 2 (some .int) 1 := ⟨LW_i 853 (by decide +kernel) (by decide +kernel), LW_i 854 (by decide +kernel) (by decide +kernel), LW_i 110 (by decide +kernel) (by decide +kernel), LW_i 855 (by decide +kernel) (by decide +kernel), by decide +kernel, by decide +kernel⟩
theorem d5_bookedShip_0 : decode b5_bookedShip 0 = .ok (.aload_n 0, 1) := by decide +kernel
theorem d5_bookedShip_1 : decode b5_bookedShip 1 = .ok (.iload_n 1, 1) := by decide +kernel
theorem d5_bookedShip_2 : decode b5_bookedShip 2 = .ok (.invokevirtual 178, 3) := by decide +kernel
theorem d5_bookedShip_5 : decode b5_bookedShip 5 = .ok (.invokestatic 136, 3) := by decide +kernel
theorem d5_bookedShip_8 : decode b5_bookedShip 8 = .ok (.aload_n 0, 1) := by decide +kernel
theorem d5_bookedShip_9 : decode b5_bookedShip 9 = .ok (.getfield 36, 3) := by decide +kernel
theorem d5_bookedShip_12 : decode b5_bookedShip 12 = .ok (.getfield 181, 3) := by decide +kernel
theorem d5_bookedShip_15 : decode b5_bookedShip 15 = .ok (.iload_n 1, 1) := by decide +kernel
theorem d5_bookedShip_16 : decode b5_bookedShip 16 = .ok (.iaload, 1) := by decide +kernel
theorem d5_bookedShip_17 : decode b5_bookedShip 17 = .ok (.ireturn, 1) := by decide +kernel
abbrev b5_startMinute : ByteArray := prog_1_method_19_code
def y5_startMinute : MethodName := ⟨"ChannelSchedule", "startMinute", "(I)I"⟩
theorem w5_startMinute : YV y5_startMinute b5_startMinute 2 (some .int) 1 := ⟨LW_i 864 (by decide +kernel) (by decide +kernel), LW_i 865 (by decide +kernel) (by decide +kernel), LW_i 110 (by decide +kernel) (by decide +kernel), LW_i 866 (by decide +kernel) (by decide +kernel), by decide +kernel, by decide +kernel⟩
theorem d5_startMinute_0 : decode b5_startMinute 0 = .ok (.aload_n 0, 1) := by decide +kernel
theorem d5_startMinute_1 : decode b5_startMinute 1 = .ok (.iload_n 1, 1) := by decide +kernel
theorem d5_startMinute_2 : decode b5_startMinute 2 = .ok (.invokevirtual 178, 3) := by decide +kernel
theorem d5_startMinute_5 : decode b5_startMinute 5 = .ok (.invokestatic 136, 3) := by decide +kernel
theorem d5_startMinute_8 : decode b5_startMinute 8 = .ok (.aload_n 0, 1) := by decide +kernel
theorem d5_startMinute_9 : decode b5_startMinute 9 = .ok (.getfield 36, 3) := by decide +kernel
theorem d5_startMinute_12 : decode b5_startMinute 12 = .ok (.getfield 183, 3) := by decide +kernel
theorem d5_startMinute_15 : decode b5_startMinute 15 = .ok (.iload_n 1, 1) := by decide +kernel
theorem d5_startMinute_16 : decode b5_startMinute 16 = .ok (.iaload, 1) := by decide +kernel
theorem d5_startMinute_17 : decode b5_startMinute 17 = .ok (.ireturn, 1) := by decide +kernel
abbrev b5_endMinute : ByteArray := prog_1_method_20_code
def y5_endMinute : MethodName := ⟨"ChannelSchedule", "endMinute", "(I)I"⟩
theorem w5_endMinute : YV y5_endMinute b5_endMinute 2 (some .int) 1 := ⟨LW_i 871 (by decide +kernel) (by decide +kernel), LW_i 872 (by decide +kernel) (by decide +kernel), LW_i 110 (by decide +kernel) (by decide +kernel), LW_i 873 (by decide +kernel) (by decide +kernel), by decide +kernel, by decide +kernel⟩
theorem d5_endMinute_0 : decode b5_endMinute 0 = .ok (.aload_n 0, 1) := by decide +kernel
theorem d5_endMinute_1 : decode b5_endMinute 1 = .ok (.iload_n 1, 1) := by decide +kernel
theorem d5_endMinute_2 : decode b5_endMinute 2 = .ok (.invokevirtual 178, 3) := by decide +kernel
theorem d5_endMinute_5 : decode b5_endMinute 5 = .ok (.invokestatic 136, 3) := by decide +kernel
theorem d5_endMinute_8 : decode b5_endMinute 8 = .ok (.aload_n 0, 1) := by decide +kernel
theorem d5_endMinute_9 : decode b5_endMinute 9 = .ok (.getfield 36, 3) := by decide +kernel
theorem d5_endMinute_12 : decode b5_endMinute 12 = .ok (.getfield 186, 3) := by decide +kernel
theorem d5_endMinute_15 : decode b5_endMinute 15 = .ok (.iload_n 1, 1) := by decide +kernel
theorem d5_endMinute_16 : decode b5_endMinute 16 = .ok (.iaload, 1) := by decide +kernel
theorem d5_endMinute_17 : decode b5_endMinute 17 = .ok (.ireturn, 1) := by decide +kernel
abbrev b5_isInbound : ByteArray := prog_1_method_21_code
def y5_isInbound : MethodName := ⟨"ChannelSchedule", "isInbound", "(I)Z"⟩
theorem w5_isInbound : YV y5_isInbound b5_isInbound 2 (some .boolean) 1 := ⟨LW_i 878 (by decide +kernel) (by decide +kernel), LW_i 879 (by decide +kernel) (by decide +kernel), LW_i 110 (by decide +kernel) (by decide +kernel), LW_i 880 (by decide +kernel) (by decide +kernel), by decide +kernel, by decide +kernel⟩
theorem d5_isInbound_0 : decode b5_isInbound 0 = .ok (.aload_n 0, 1) := by decide +kernel
theorem d5_isInbound_1 : decode b5_isInbound 1 = .ok (.iload_n 1, 1) := by decide +kernel
theorem d5_isInbound_2 : decode b5_isInbound 2 = .ok (.invokevirtual 178, 3) := by decide +kernel
theorem d5_isInbound_5 : decode b5_isInbound 5 = .ok (.invokestatic 136, 3) := by decide +kernel
theorem d5_isInbound_8 : decode b5_isInbound 8 = .ok (.aload_n 0, 1) := by decide +kernel
theorem d5_isInbound_9 : decode b5_isInbound 9 = .ok (.getfield 36, 3) := by decide +kernel
theorem d5_isInbound_12 : decode b5_isInbound 12 = .ok (.getfield 189, 3) := by decide +kernel
theorem d5_isInbound_15 : decode b5_isInbound 15 = .ok (.iload_n 1, 1) := by decide +kernel
theorem d5_isInbound_16 : decode b5_isInbound 16 = .ok (.baload, 1) := by decide +kernel
theorem d5_isInbound_17 : decode b5_isInbound 17 = .ok (.ireturn, 1) := by decide +kernel
abbrev b5_isFinished : ByteArray := prog_1_method_22_code
def y5_isFinished : MethodName := ⟨"ChannelSchedule", "isFinished", "(I)Z"⟩
theorem w5_isFinished : YV y5_isFinished b5_isFinished 2 (some .boolean) 1 := ⟨LW_i 885 (by decide +kernel) (by decide +kernel), LW_i 886 (by decide +kernel) (by decide +kernel), LW_i 110 (by decide +kernel) (by decide +kernel), LW_i 887 (by decide +kernel) (by decide +kernel), by decide +kernel, by decide +kernel⟩
theorem d5_isFinished_0 : decode b5_isFinished 0 = .ok (.aload_n 0, 1) := by decide +kernel
theorem d5_isFinished_1 : decode b5_isFinished 1 = .ok (.iload_n 1, 1) := by decide +kernel
theorem d5_isFinished_2 : decode b5_isFinished 2 = .ok (.invokevirtual 178, 3) := by decide +kernel
theorem d5_isFinished_5 : decode b5_isFinished 5 = .ok (.invokestatic 136, 3) := by decide +kernel
theorem d5_isFinished_8 : decode b5_isFinished 8 = .ok (.aload_n 0, 1) := by decide +kernel
theorem d5_isFinished_9 : decode b5_isFinished 9 = .ok (.getfield 36, 3) := by decide +kernel
theorem d5_isFinished_12 : decode b5_isFinished 12 = .ok (.getfield 186, 3) := by decide +kernel
theorem d5_isFinished_15 : decode b5_isFinished 15 = .ok (.iload_n 1, 1) := by decide +kernel
theorem d5_isFinished_16 : decode b5_isFinished 16 = .ok (.iaload, 1) := by decide +kernel
theorem d5_isFinished_17 : decode b5_isFinished 17 = .ok (.aload_n 0, 1) := by decide +kernel
theorem d5_isFinished_18 : decode b5_isFinished 18 = .ok (.getfield 36, 3) := by decide +kernel
theorem d5_isFinished_21 : decode b5_isFinished 21 = .ok (.getfield 129, 3) := by decide +kernel
theorem d5_isFinished_24 : decode b5_isFinished 24 = .ok (.if_icmp .gt 7, 3) := by decide +kernel
theorem d5_isFinished_27 : decode b5_isFinished 27 = .ok (.iconst 1, 1) := by decide +kernel
theorem d5_isFinished_28 : decode b5_isFinished 28 = .ok (.goto 4, 3) := by decide +kernel
theorem d5_isFinished_31 : decode b5_isFinished 31 = .ok (.iconst 0, 1) := by decide +kernel
theorem d5_isFinished_32 : decode b5_isFinished 32 = .ok (.ireturn, 1) := by decide +kernel
abbrev b5_isUnderWay : ByteArray := prog_1_method_23_code
def y5_isUnderWay : MethodName := ⟨"ChannelSchedule", "isUnderWay", "(I)Z"⟩
theorem w5_isUnderWay : YV y5_isUnderWay b5_isUnderWay 2 (some .boolean) 1 := ⟨LW_i 892 (by decide +kernel) (by decide +kernel), LW_i 893 (by decide +kernel) (by decide +kernel), LW_i 110 (by decide +kernel) (by decide +kernel), LW_i 894 (by decide +kernel) (by decide +kernel), by decide +kernel, by decide +kernel⟩
theorem d5_isUnderWay_0 : decode b5_isUnderWay 0 = .ok (.aload_n 0, 1) := by decide +kernel
theorem d5_isUnderWay_1 : decode b5_isUnderWay 1 = .ok (.iload_n 1, 1) := by decide +kernel
theorem d5_isUnderWay_2 : decode b5_isUnderWay 2 = .ok (.invokevirtual 178, 3) := by decide +kernel
theorem d5_isUnderWay_5 : decode b5_isUnderWay 5 = .ok (.invokestatic 136, 3) := by decide +kernel
theorem d5_isUnderWay_8 : decode b5_isUnderWay 8 = .ok (.aload_n 0, 1) := by decide +kernel
theorem d5_isUnderWay_9 : decode b5_isUnderWay 9 = .ok (.getfield 36, 3) := by decide +kernel
theorem d5_isUnderWay_12 : decode b5_isUnderWay 12 = .ok (.getfield 183, 3) := by decide +kernel
theorem d5_isUnderWay_15 : decode b5_isUnderWay 15 = .ok (.iload_n 1, 1) := by decide +kernel
theorem d5_isUnderWay_16 : decode b5_isUnderWay 16 = .ok (.iaload, 1) := by decide +kernel
theorem d5_isUnderWay_17 : decode b5_isUnderWay 17 = .ok (.aload_n 0, 1) := by decide +kernel
theorem d5_isUnderWay_18 : decode b5_isUnderWay 18 = .ok (.getfield 36, 3) := by decide +kernel
theorem d5_isUnderWay_21 : decode b5_isUnderWay 21 = .ok (.getfield 129, 3) := by decide +kernel
theorem d5_isUnderWay_24 : decode b5_isUnderWay 24 = .ok (.if_icmp .gt 26, 3) := by decide +kernel
theorem d5_isUnderWay_27 : decode b5_isUnderWay 27 = .ok (.aload_n 0, 1) := by decide +kernel
theorem d5_isUnderWay_28 : decode b5_isUnderWay 28 = .ok (.getfield 36, 3) := by decide +kernel
theorem d5_isUnderWay_31 : decode b5_isUnderWay 31 = .ok (.getfield 186, 3) := by decide +kernel
theorem d5_isUnderWay_34 : decode b5_isUnderWay 34 = .ok (.iload_n 1, 1) := by decide +kernel
theorem d5_isUnderWay_35 : decode b5_isUnderWay 35 = .ok (.iaload, 1) := by decide +kernel
theorem d5_isUnderWay_36 : decode b5_isUnderWay 36 = .ok (.aload_n 0, 1) := by decide +kernel
theorem d5_isUnderWay_37 : decode b5_isUnderWay 37 = .ok (.getfield 36, 3) := by decide +kernel
theorem d5_isUnderWay_40 : decode b5_isUnderWay 40 = .ok (.getfield 129, 3) := by decide +kernel
theorem d5_isUnderWay_43 : decode b5_isUnderWay 43 = .ok (.if_icmp .le 7, 3) := by decide +kernel
theorem d5_isUnderWay_46 : decode b5_isUnderWay 46 = .ok (.iconst 1, 1) := by decide +kernel
theorem d5_isUnderWay_47 : decode b5_isUnderWay 47 = .ok (.goto 4, 3) := by decide +kernel
theorem d5_isUnderWay_50 : decode b5_isUnderWay 50 = .ok (.iconst 0, 1) := by decide +kernel
theorem d5_isUnderWay_51 : decode b5_isUnderWay 51 = .ok (.ireturn, 1) := by decide +kernel
abbrev b5_occupancy : ByteArray := prog_1_method_24_code
def y5_occupancy : MethodName := ⟨"ChannelSchedule", "occupancy", "(I)I"⟩
theorem w5_occupancy : YV y5_occupancy b5_occupancy 4 (some .int) 1 := ⟨LW_i 899 (by decide +kernel) (by decide +kernel), LW_i 900 (by decide +kernel) (by decide +kernel), LW_i 110 (by decide +kernel) (by decide +kernel), LW_i 901 (by decide +kernel) (by decide +kernel), by decide +kernel, by decide +kernel⟩
theorem d5_occupancy_0 : decode b5_occupancy 0 = .ok (.iload_n 1, 1) := by decide +kernel
theorem d5_occupancy_1 : decode b5_occupancy 1 = .ok (.iconst 0, 1) := by decide +kernel
theorem d5_occupancy_2 : decode b5_occupancy 2 = .ok (.sipush 1200, 3) := by decide +kernel
theorem d5_occupancy_5 : decode b5_occupancy 5 = .ok (.invokestatic 104, 3) := by decide +kernel
theorem d5_occupancy_8 : decode b5_occupancy 8 = .ok (.invokestatic 108, 3) := by decide +kernel
theorem d5_occupancy_11 : decode b5_occupancy 11 = .ok (.iconst 0, 1) := by decide +kernel
theorem d5_occupancy_12 : decode b5_occupancy 12 = .ok (.istore_n 2, 1) := by decide +kernel
theorem d5_occupancy_13 : decode b5_occupancy 13 = .ok (.iconst 0, 1) := by decide +kernel
theorem d5_occupancy_14 : decode b5_occupancy 14 = .ok (.istore_n 3, 1) := by decide +kernel
theorem d5_occupancy_15 : decode b5_occupancy 15 = .ok (.iload_n 3, 1) := by decide +kernel
theorem d5_occupancy_16 : decode b5_occupancy 16 = .ok (.aload_n 0, 1) := by decide +kernel
theorem d5_occupancy_17 : decode b5_occupancy 17 = .ok (.getfield 36, 3) := by decide +kernel
theorem d5_occupancy_20 : decode b5_occupancy 20 = .ok (.getfield 175, 3) := by decide +kernel
theorem d5_occupancy_23 : decode b5_occupancy 23 = .ok (.if_icmp .ge 38, 3) := by decide +kernel
theorem d5_occupancy_26 : decode b5_occupancy 26 = .ok (.aload_n 0, 1) := by decide +kernel
theorem d5_occupancy_27 : decode b5_occupancy 27 = .ok (.getfield 36, 3) := by decide +kernel
theorem d5_occupancy_30 : decode b5_occupancy 30 = .ok (.getfield 183, 3) := by decide +kernel
theorem d5_occupancy_33 : decode b5_occupancy 33 = .ok (.iload_n 3, 1) := by decide +kernel
theorem d5_occupancy_34 : decode b5_occupancy 34 = .ok (.iaload, 1) := by decide +kernel
theorem d5_occupancy_35 : decode b5_occupancy 35 = .ok (.iload_n 1, 1) := by decide +kernel
theorem d5_occupancy_36 : decode b5_occupancy 36 = .ok (.if_icmp .gt 19, 3) := by decide +kernel
theorem d5_occupancy_39 : decode b5_occupancy 39 = .ok (.aload_n 0, 1) := by decide +kernel
theorem d5_occupancy_40 : decode b5_occupancy 40 = .ok (.getfield 36, 3) := by decide +kernel
theorem d5_occupancy_43 : decode b5_occupancy 43 = .ok (.getfield 186, 3) := by decide +kernel
theorem d5_occupancy_46 : decode b5_occupancy 46 = .ok (.iload_n 3, 1) := by decide +kernel
theorem d5_occupancy_47 : decode b5_occupancy 47 = .ok (.iaload, 1) := by decide +kernel
theorem d5_occupancy_48 : decode b5_occupancy 48 = .ok (.iload_n 1, 1) := by decide +kernel
theorem d5_occupancy_49 : decode b5_occupancy 49 = .ok (.if_icmp .le 6, 3) := by decide +kernel
theorem d5_occupancy_52 : decode b5_occupancy 52 = .ok (.iinc 2 1, 3) := by decide +kernel
theorem d5_occupancy_55 : decode b5_occupancy 55 = .ok (.iinc 3 1, 3) := by decide +kernel
theorem d5_occupancy_58 : decode b5_occupancy 58 = .ok (.goto (-43), 3) := by decide +kernel
theorem d5_occupancy_61 : decode b5_occupancy 61 = .ok (.iload_n 2, 1) := by decide +kernel
theorem d5_occupancy_62 : decode b5_occupancy 62 = .ok (.ireturn, 1) := by decide +kernel
abbrev b5_emptyMinutes : ByteArray := prog_1_method_25_code
def y5_emptyMinutes : MethodName := ⟨"ChannelSchedule", "emptyMinutes", "(II)I"⟩
theorem w5_emptyMinutes : YV y5_emptyMinutes b5_emptyMinutes 3 (some .int) 2 := ⟨LW_i 906 (by decide +kernel) (by decide +kernel), LW_i 907 (by decide +kernel) (by decide +kernel), LW_i 110 (by decide +kernel) (by decide +kernel), LW_i 908 (by decide +kernel) (by decide +kernel), by decide +kernel, by decide +kernel⟩
theorem d5_emptyMinutes_0 : decode b5_emptyMinutes 0 = .ok (.iload_n 1, 1) := by decide +kernel
theorem d5_emptyMinutes_1 : decode b5_emptyMinutes 1 = .ok (.iconst 0, 1) := by decide +kernel
theorem d5_emptyMinutes_2 : decode b5_emptyMinutes 2 = .ok (.sipush 1200, 3) := by decide +kernel
theorem d5_emptyMinutes_5 : decode b5_emptyMinutes 5 = .ok (.invokestatic 104, 3) := by decide +kernel
theorem d5_emptyMinutes_8 : decode b5_emptyMinutes 8 = .ok (.ifCond .eq 18, 3) := by decide +kernel
theorem d5_emptyMinutes_11 : decode b5_emptyMinutes 11 = .ok (.iload_n 2, 1) := by decide +kernel
theorem d5_emptyMinutes_12 : decode b5_emptyMinutes 12 = .ok (.iload_n 1, 1) := by decide +kernel
theorem d5_emptyMinutes_13 : decode b5_emptyMinutes 13 = .ok (.sipush 1200, 3) := by decide +kernel
theorem d5_emptyMinutes_16 : decode b5_emptyMinutes 16 = .ok (.invokestatic 104, 3) := by decide +kernel
theorem d5_emptyMinutes_19 : decode b5_emptyMinutes 19 = .ok (.ifCond .eq 7, 3) := by decide +kernel
theorem d5_emptyMinutes_22 : decode b5_emptyMinutes 22 = .ok (.iconst 1, 1) := by decide +kernel
theorem d5_emptyMinutes_23 : decode b5_emptyMinutes 23 = .ok (.goto 4, 3) := by decide +kernel
theorem d5_emptyMinutes_26 : decode b5_emptyMinutes 26 = .ok (.iconst 0, 1) := by decide +kernel
theorem d5_emptyMinutes_27 : decode b5_emptyMinutes 27 = .ok (.invokestatic 108, 3) := by decide +kernel
theorem d5_emptyMinutes_30 : decode b5_emptyMinutes 30 = .ok (.aload_n 0, 1) := by decide +kernel
theorem d5_emptyMinutes_31 : decode b5_emptyMinutes 31 = .ok (.iload_n 1, 1) := by decide +kernel
theorem d5_emptyMinutes_32 : decode b5_emptyMinutes 32 = .ok (.iload_n 2, 1) := by decide +kernel
theorem d5_emptyMinutes_33 : decode b5_emptyMinutes 33 = .ok (.invokevirtual 192, 3) := by decide +kernel
theorem d5_emptyMinutes_36 : decode b5_emptyMinutes 36 = .ok (.ireturn, 1) := by decide +kernel
abbrev b5_longestEmptyRun : ByteArray := prog_1_method_26_code
def y5_longestEmptyRun : MethodName := ⟨"ChannelSchedule", "longestEmptyRun", "(II)I"⟩
theorem w5_longestEmptyRun : YV y5_longestEmptyRun b5_longestEmptyRun 5 (some .int) 2 := ⟨LW_i 913 (by decide +kernel) (by decide +kernel), LW_i 914 (by decide +kernel) (by decide +kernel), LW_i 110 (by decide +kernel) (by decide +kernel), LW_i 915 (by decide +kernel) (by decide +kernel), by decide +kernel, by decide +kernel⟩
theorem d5_longestEmptyRun_0 : decode b5_longestEmptyRun 0 = .ok (.iload_n 1, 1) := by decide +kernel
theorem d5_longestEmptyRun_1 : decode b5_longestEmptyRun 1 = .ok (.iconst 0, 1) := by decide +kernel
theorem d5_longestEmptyRun_2 : decode b5_longestEmptyRun 2 = .ok (.sipush 1200, 3) := by decide +kernel
theorem d5_longestEmptyRun_5 : decode b5_longestEmptyRun 5 = .ok (.invokestatic 104, 3) := by decide +kernel
theorem d5_longestEmptyRun_8 : decode b5_longestEmptyRun 8 = .ok (.ifCond .eq 18, 3) := by decide +kernel
theorem d5_longestEmptyRun_11 : decode b5_longestEmptyRun 11 = .ok (.iload_n 2, 1) := by decide +kernel
theorem d5_longestEmptyRun_12 : decode b5_longestEmptyRun 12 = .ok (.iload_n 1, 1) := by decide +kernel
theorem d5_longestEmptyRun_13 : decode b5_longestEmptyRun 13 = .ok (.sipush 1200, 3) := by decide +kernel
theorem d5_longestEmptyRun_16 : decode b5_longestEmptyRun 16 = .ok (.invokestatic 104, 3) := by decide +kernel
theorem d5_longestEmptyRun_19 : decode b5_longestEmptyRun 19 = .ok (.ifCond .eq 7, 3) := by decide +kernel
theorem d5_longestEmptyRun_22 : decode b5_longestEmptyRun 22 = .ok (.iconst 1, 1) := by decide +kernel
theorem d5_longestEmptyRun_23 : decode b5_longestEmptyRun 23 = .ok (.goto 4, 3) := by decide +kernel
theorem d5_longestEmptyRun_26 : decode b5_longestEmptyRun 26 = .ok (.iconst 0, 1) := by decide +kernel
theorem d5_longestEmptyRun_27 : decode b5_longestEmptyRun 27 = .ok (.invokestatic 108, 3) := by decide +kernel
theorem d5_longestEmptyRun_30 : decode b5_longestEmptyRun 30 = .ok (.iconst 0, 1) := by decide +kernel
theorem d5_longestEmptyRun_31 : decode b5_longestEmptyRun 31 = .ok (.istore_n 3, 1) := by decide +kernel
theorem d5_longestEmptyRun_32 : decode b5_longestEmptyRun 32 = .ok (.iconst 0, 1) := by decide +kernel
theorem d5_longestEmptyRun_33 : decode b5_longestEmptyRun 33 = .ok (.istore 4, 2) := by decide +kernel
theorem d5_longestEmptyRun_35 : decode b5_longestEmptyRun 35 = .ok (.iload 4, 2) := by decide +kernel
theorem d5_longestEmptyRun_37 : decode b5_longestEmptyRun 37 = .ok (.aload_n 0, 1) := by decide +kernel
theorem d5_longestEmptyRun_38 : decode b5_longestEmptyRun 38 = .ok (.getfield 36, 3) := by decide +kernel
theorem d5_longestEmptyRun_41 : decode b5_longestEmptyRun 41 = .ok (.getfield 175, 3) := by decide +kernel
theorem d5_longestEmptyRun_44 : decode b5_longestEmptyRun 44 = .ok (.if_icmp .gt 22, 3) := by decide +kernel
theorem d5_longestEmptyRun_47 : decode b5_longestEmptyRun 47 = .ok (.iload_n 3, 1) := by decide +kernel
theorem d5_longestEmptyRun_48 : decode b5_longestEmptyRun 48 = .ok (.aload_n 0, 1) := by decide +kernel
theorem d5_longestEmptyRun_49 : decode b5_longestEmptyRun 49 = .ok (.iload 4, 2) := by decide +kernel
theorem d5_longestEmptyRun_51 : decode b5_longestEmptyRun 51 = .ok (.iload_n 1, 1) := by decide +kernel
theorem d5_longestEmptyRun_52 : decode b5_longestEmptyRun 52 = .ok (.iload_n 2, 1) := by decide +kernel
theorem d5_longestEmptyRun_53 : decode b5_longestEmptyRun 53 = .ok (.invokevirtual 196, 3) := by decide +kernel
theorem d5_longestEmptyRun_56 : decode b5_longestEmptyRun 56 = .ok (.invokestatic 200, 3) := by decide +kernel
theorem d5_longestEmptyRun_59 : decode b5_longestEmptyRun 59 = .ok (.istore_n 3, 1) := by decide +kernel
theorem d5_longestEmptyRun_60 : decode b5_longestEmptyRun 60 = .ok (.iinc 4 1, 3) := by decide +kernel
theorem d5_longestEmptyRun_63 : decode b5_longestEmptyRun 63 = .ok (.goto (-28), 3) := by decide +kernel
theorem d5_longestEmptyRun_66 : decode b5_longestEmptyRun 66 = .ok (.iload_n 3, 1) := by decide +kernel
theorem d5_longestEmptyRun_67 : decode b5_longestEmptyRun 67 = .ok (.ireturn, 1) := by decide +kernel
abbrev b5_conflictCount : ByteArray := prog_1_method_27_code
def y5_conflictCount : MethodName := ⟨"ChannelSchedule", "conflictCount", "(IZI)I"⟩
theorem w5_conflictCount : YV y5_conflictCount b5_conflictCount 7 (some .int) 3 := ⟨LW_i 920 (by decide +kernel) (by decide +kernel), LW_i 921 (by decide +kernel) (by decide +kernel), LW_i 110 (by decide +kernel) (by decide +kernel), LW_i 922 (by decide +kernel) (by decide +kernel), by decide +kernel, by decide +kernel⟩
theorem d5_conflictCount_0 : decode b5_conflictCount 0 = .ok (.aload_n 0, 1) := by decide +kernel
theorem d5_conflictCount_1 : decode b5_conflictCount 1 = .ok (.iload_n 1, 1) := by decide +kernel
theorem d5_conflictCount_2 : decode b5_conflictCount 2 = .ok (.invokevirtual 132, 3) := by decide +kernel
theorem d5_conflictCount_5 : decode b5_conflictCount 5 = .ok (.invokestatic 136, 3) := by decide +kernel
theorem d5_conflictCount_8 : decode b5_conflictCount 8 = .ok (.iload_n 3, 1) := by decide +kernel
theorem d5_conflictCount_9 : decode b5_conflictCount 9 = .ok (.iconst 0, 1) := by decide +kernel
theorem d5_conflictCount_10 : decode b5_conflictCount 10 = .ok (.sipush 999, 3) := by decide +kernel
theorem d5_conflictCount_13 : decode b5_conflictCount 13 = .ok (.invokestatic 104, 3) := by decide +kernel
theorem d5_conflictCount_16 : decode b5_conflictCount 16 = .ok (.invokestatic 108, 3) := by decide +kernel
theorem d5_conflictCount_19 : decode b5_conflictCount 19 = .ok (.aload_n 0, 1) := by decide +kernel
theorem d5_conflictCount_20 : decode b5_conflictCount 20 = .ok (.iload_n 1, 1) := by decide +kernel
theorem d5_conflictCount_21 : decode b5_conflictCount 21 = .ok (.invokevirtual 139, 3) := by decide +kernel
theorem d5_conflictCount_24 : decode b5_conflictCount 24 = .ok (.istore 4, 2) := by decide +kernel
theorem d5_conflictCount_26 : decode b5_conflictCount 26 = .ok (.iconst 0, 1) := by decide +kernel
theorem d5_conflictCount_27 : decode b5_conflictCount 27 = .ok (.istore 5, 2) := by decide +kernel
theorem d5_conflictCount_29 : decode b5_conflictCount 29 = .ok (.iconst 0, 1) := by decide +kernel
theorem d5_conflictCount_30 : decode b5_conflictCount 30 = .ok (.istore 6, 2) := by decide +kernel
theorem d5_conflictCount_32 : decode b5_conflictCount 32 = .ok (.iload 6, 2) := by decide +kernel
theorem d5_conflictCount_34 : decode b5_conflictCount 34 = .ok (.aload_n 0, 1) := by decide +kernel
theorem d5_conflictCount_35 : decode b5_conflictCount 35 = .ok (.getfield 36, 3) := by decide +kernel
theorem d5_conflictCount_38 : decode b5_conflictCount 38 = .ok (.getfield 175, 3) := by decide +kernel
theorem d5_conflictCount_41 : decode b5_conflictCount 41 = .ok (.if_icmp .ge 25, 3) := by decide +kernel
theorem d5_conflictCount_44 : decode b5_conflictCount 44 = .ok (.aload_n 0, 1) := by decide +kernel
theorem d5_conflictCount_45 : decode b5_conflictCount 45 = .ok (.iload 6, 2) := by decide +kernel
theorem d5_conflictCount_47 : decode b5_conflictCount 47 = .ok (.iload_n 2, 1) := by decide +kernel
theorem d5_conflictCount_48 : decode b5_conflictCount 48 = .ok (.iload_n 3, 1) := by decide +kernel
theorem d5_conflictCount_49 : decode b5_conflictCount 49 = .ok (.iload 4, 2) := by decide +kernel
theorem d5_conflictCount_51 : decode b5_conflictCount 51 = .ok (.invokevirtual 205, 3) := by decide +kernel
theorem d5_conflictCount_54 : decode b5_conflictCount 54 = .ok (.ifCond .eq 6, 3) := by decide +kernel
theorem d5_conflictCount_57 : decode b5_conflictCount 57 = .ok (.iinc 5 1, 3) := by decide +kernel
theorem d5_conflictCount_60 : decode b5_conflictCount 60 = .ok (.iinc 6 1, 3) := by decide +kernel
theorem d5_conflictCount_63 : decode b5_conflictCount 63 = .ok (.goto (-31), 3) := by decide +kernel
theorem d5_conflictCount_66 : decode b5_conflictCount 66 = .ok (.iload 5, 2) := by decide +kernel
theorem d5_conflictCount_68 : decode b5_conflictCount 68 = .ok (.ireturn, 1) := by decide +kernel
abbrev b5_firstConflict : ByteArray := prog_1_method_28_code
def y5_firstConflict : MethodName := ⟨"ChannelSchedule", "firstConflict", "(IZI)I"⟩
theorem w5_firstConflict : YV y5_firstConflict b5_firstConflict 4 (some .int) 3 := ⟨LW_i 927 (by decide +kernel) (by decide +kernel), LW_i 928 (by decide +kernel) (by decide +kernel), LW_i 110 (by decide +kernel) (by decide +kernel), LW_i 929 (by decide +kernel) (by decide +kernel), by decide +kernel, by decide +kernel⟩
theorem d5_firstConflict_0 : decode b5_firstConflict 0 = .ok (.aload_n 0, 1) := by decide +kernel
theorem d5_firstConflict_1 : decode b5_firstConflict 1 = .ok (.iload_n 1, 1) := by decide +kernel
theorem d5_firstConflict_2 : decode b5_firstConflict 2 = .ok (.invokevirtual 132, 3) := by decide +kernel
theorem d5_firstConflict_5 : decode b5_firstConflict 5 = .ok (.invokestatic 136, 3) := by decide +kernel
theorem d5_firstConflict_8 : decode b5_firstConflict 8 = .ok (.iload_n 3, 1) := by decide +kernel
theorem d5_firstConflict_9 : decode b5_firstConflict 9 = .ok (.iconst 0, 1) := by decide +kernel
theorem d5_firstConflict_10 : decode b5_firstConflict 10 = .ok (.sipush 999, 3) := by decide +kernel
theorem d5_firstConflict_13 : decode b5_firstConflict 13 = .ok (.invokestatic 104, 3) := by decide +kernel
theorem d5_firstConflict_16 : decode b5_firstConflict 16 = .ok (.invokestatic 108, 3) := by decide +kernel
theorem d5_firstConflict_19 : decode b5_firstConflict 19 = .ok (.aload_n 0, 1) := by decide +kernel
theorem d5_firstConflict_20 : decode b5_firstConflict 20 = .ok (.iload_n 2, 1) := by decide +kernel
theorem d5_firstConflict_21 : decode b5_firstConflict 21 = .ok (.iload_n 3, 1) := by decide +kernel
theorem d5_firstConflict_22 : decode b5_firstConflict 22 = .ok (.aload_n 0, 1) := by decide +kernel
theorem d5_firstConflict_23 : decode b5_firstConflict 23 = .ok (.iload_n 1, 1) := by decide +kernel
theorem d5_firstConflict_24 : decode b5_firstConflict 24 = .ok (.invokevirtual 139, 3) := by decide +kernel
theorem d5_firstConflict_27 : decode b5_firstConflict 27 = .ok (.iconst (-1), 1) := by decide +kernel
theorem d5_firstConflict_28 : decode b5_firstConflict 28 = .ok (.invokevirtual 209, 3) := by decide +kernel
theorem d5_firstConflict_31 : decode b5_firstConflict 31 = .ok (.ireturn, 1) := by decide +kernel
abbrev b5_earliestStart : ByteArray := prog_1_method_29_code
def y5_earliestStart : MethodName := ⟨"ChannelSchedule", "earliestStart", "(IZI)I"⟩
theorem w5_earliestStart : YV y5_earliestStart b5_earliestStart 4 (some .int) 3 := ⟨LW_i 934 (by decide +kernel) (by decide +kernel), LW_i 935 (by decide +kernel) (by decide +kernel), LW_i 110 (by decide +kernel) (by decide +kernel), LW_i 936 (by decide +kernel) (by decide +kernel), by decide +kernel, by decide +kernel⟩
theorem d5_earliestStart_0 : decode b5_earliestStart 0 = .ok (.aload_n 0, 1) := by decide +kernel
theorem d5_earliestStart_1 : decode b5_earliestStart 1 = .ok (.iload_n 1, 1) := by decide +kernel
theorem d5_earliestStart_2 : decode b5_earliestStart 2 = .ok (.invokevirtual 132, 3) := by decide +kernel
theorem d5_earliestStart_5 : decode b5_earliestStart 5 = .ok (.invokestatic 136, 3) := by decide +kernel
theorem d5_earliestStart_8 : decode b5_earliestStart 8 = .ok (.iload_n 3, 1) := by decide +kernel
theorem d5_earliestStart_9 : decode b5_earliestStart 9 = .ok (.iconst 0, 1) := by decide +kernel
theorem d5_earliestStart_10 : decode b5_earliestStart 10 = .ok (.sipush 999, 3) := by decide +kernel
theorem d5_earliestStart_13 : decode b5_earliestStart 13 = .ok (.invokestatic 104, 3) := by decide +kernel
theorem d5_earliestStart_16 : decode b5_earliestStart 16 = .ok (.invokestatic 108, 3) := by decide +kernel
theorem d5_earliestStart_19 : decode b5_earliestStart 19 = .ok (.aload_n 0, 1) := by decide +kernel
theorem d5_earliestStart_20 : decode b5_earliestStart 20 = .ok (.iload_n 2, 1) := by decide +kernel
theorem d5_earliestStart_21 : decode b5_earliestStart 21 = .ok (.iload_n 3, 1) := by decide +kernel
theorem d5_earliestStart_22 : decode b5_earliestStart 22 = .ok (.sipush 999, 3) := by decide +kernel
theorem d5_earliestStart_25 : decode b5_earliestStart 25 = .ok (.aload_n 0, 1) := by decide +kernel
theorem d5_earliestStart_26 : decode b5_earliestStart 26 = .ok (.iload_n 1, 1) := by decide +kernel
theorem d5_earliestStart_27 : decode b5_earliestStart 27 = .ok (.invokevirtual 139, 3) := by decide +kernel
theorem d5_earliestStart_30 : decode b5_earliestStart 30 = .ok (.iconst (-1), 1) := by decide +kernel
theorem d5_earliestStart_31 : decode b5_earliestStart 31 = .ok (.invokevirtual 213, 3) := by decide +kernel
theorem d5_earliestStart_34 : decode b5_earliestStart 34 = .ok (.ireturn, 1) := by decide +kernel
abbrev b5_latestStart : ByteArray := prog_1_method_30_code
def y5_latestStart : MethodName := ⟨"ChannelSchedule", "latestStart", "(IZI)I"⟩
theorem w5_latestStart : YV y5_latestStart b5_latestStart 5 (some .int) 3 := ⟨LW_i 945 (by decide +kernel) (by decide +kernel), LW_i 946 (by decide +kernel) (by decide +kernel), LW_i 110 (by decide +kernel) (by decide +kernel), LW_i 947 (by decide +kernel) (by decide +kernel), by decide +kernel, by decide +kernel⟩
theorem d5_latestStart_0 : decode b5_latestStart 0 = .ok (.aload_n 0, 1) := by decide +kernel
theorem d5_latestStart_1 : decode b5_latestStart 1 = .ok (.iload_n 1, 1) := by decide +kernel
theorem d5_latestStart_2 : decode b5_latestStart 2 = .ok (.invokevirtual 132, 3) := by decide +kernel
theorem d5_latestStart_5 : decode b5_latestStart 5 = .ok (.invokestatic 136, 3) := by decide +kernel
theorem d5_latestStart_8 : decode b5_latestStart 8 = .ok (.iload_n 3, 1) := by decide +kernel
theorem d5_latestStart_9 : decode b5_latestStart 9 = .ok (.iconst 0, 1) := by decide +kernel
theorem d5_latestStart_10 : decode b5_latestStart 10 = .ok (.sipush 1200, 3) := by decide +kernel
theorem d5_latestStart_13 : decode b5_latestStart 13 = .ok (.invokestatic 104, 3) := by decide +kernel
theorem d5_latestStart_16 : decode b5_latestStart 16 = .ok (.invokestatic 108, 3) := by decide +kernel
theorem d5_latestStart_19 : decode b5_latestStart 19 = .ok (.aload_n 0, 1) := by decide +kernel
theorem d5_latestStart_20 : decode b5_latestStart 20 = .ok (.iload_n 1, 1) := by decide +kernel
theorem d5_latestStart_21 : decode b5_latestStart 21 = .ok (.invokevirtual 139, 3) := by decide +kernel
theorem d5_latestStart_24 : decode b5_latestStart 24 = .ok (.istore 4, 2) := by decide +kernel
theorem d5_latestStart_26 : decode b5_latestStart 26 = .ok (.aload_n 0, 1) := by decide +kernel
theorem d5_latestStart_27 : decode b5_latestStart 27 = .ok (.iload_n 2, 1) := by decide +kernel
theorem d5_latestStart_28 : decode b5_latestStart 28 = .ok (.sipush 999, 3) := by decide +kernel
theorem d5_latestStart_31 : decode b5_latestStart 31 = .ok (.iload_n 3, 1) := by decide +kernel
theorem d5_latestStart_32 : decode b5_latestStart 32 = .ok (.iload 4, 2) := by decide +kernel
theorem d5_latestStart_34 : decode b5_latestStart 34 = .ok (.isub, 1) := by decide +kernel
theorem d5_latestStart_35 : decode b5_latestStart 35 = .ok (.invokestatic 217, 3) := by decide +kernel
theorem d5_latestStart_38 : decode b5_latestStart 38 = .ok (.iload 4, 2) := by decide +kernel
theorem d5_latestStart_40 : decode b5_latestStart 40 = .ok (.invokevirtual 220, 3) := by decide +kernel
theorem d5_latestStart_43 : decode b5_latestStart 43 = .ok (.ireturn, 1) := by decide +kernel
abbrev b5_bestCancellation : ByteArray := prog_1_method_31_code
def y5_bestCancellation : MethodName := ⟨"ChannelSchedule", "bestCancellation", "(IZI)I"⟩
theorem w5_bestCancellation : YV y5_bestCancellation b5_bestCancellation 10 (some .int) 3 := ⟨LW_i 956 (by decide +kernel) (by decide +kernel), LW_i 957 (by decide +kernel) (by decide +kernel), LW_i 110 (by decide +kernel) (by decide +kernel), LW_i 958 (by decide +kernel) (by decide +kernel), by decide +kernel, by decide +kernel⟩
theorem d5_bestCancellation_0 : decode b5_bestCancellation 0 = .ok (.aload_n 0, 1) := by decide +kernel
theorem d5_bestCancellation_1 : decode b5_bestCancellation 1 = .ok (.iload_n 1, 1) := by decide +kernel
theorem d5_bestCancellation_2 : decode b5_bestCancellation 2 = .ok (.invokevirtual 132, 3) := by decide +kernel
theorem d5_bestCancellation_5 : decode b5_bestCancellation 5 = .ok (.invokestatic 136, 3) := by decide +kernel
theorem d5_bestCancellation_8 : decode b5_bestCancellation 8 = .ok (.iload_n 3, 1) := by decide +kernel
theorem d5_bestCancellation_9 : decode b5_bestCancellation 9 = .ok (.iconst 0, 1) := by decide +kernel
theorem d5_bestCancellation_10 : decode b5_bestCancellation 10 = .ok (.sipush 999, 3) := by decide +kernel
theorem d5_bestCancellation_13 : decode b5_bestCancellation 13 = .ok (.invokestatic 104, 3) := by decide +kernel
theorem d5_bestCancellation_16 : decode b5_bestCancellation 16 = .ok (.invokestatic 108, 3) := by decide +kernel
theorem d5_bestCancellation_19 : decode b5_bestCancellation 19 = .ok (.aload_n 0, 1) := by decide +kernel
theorem d5_bestCancellation_20 : decode b5_bestCancellation 20 = .ok (.getfield 36, 3) := by decide +kernel
theorem d5_bestCancellation_23 : decode b5_bestCancellation 23 = .ok (.getfield 175, 3) := by decide +kernel
theorem d5_bestCancellation_26 : decode b5_bestCancellation 26 = .ok (.ifCond .le 7, 3) := by decide +kernel
theorem d5_bestCancellation_29 : decode b5_bestCancellation 29 = .ok (.iconst 1, 1) := by decide +kernel
theorem d5_bestCancellation_30 : decode b5_bestCancellation 30 = .ok (.goto 4, 3) := by decide +kernel
theorem d5_bestCancellation_33 : decode b5_bestCancellation 33 = .ok (.iconst 0, 1) := by decide +kernel
theorem d5_bestCancellation_34 : decode b5_bestCancellation 34 = .ok (.invokestatic 172, 3) := by decide +kernel
theorem d5_bestCancellation_37 : decode b5_bestCancellation 37 = .ok (.aload_n 0, 1) := by decide +kernel
theorem d5_bestCancellation_38 : decode b5_bestCancellation 38 = .ok (.iload_n 1, 1) := by decide +kernel
theorem d5_bestCancellation_39 : decode b5_bestCancellation 39 = .ok (.invokevirtual 139, 3) := by decide +kernel
theorem d5_bestCancellation_42 : decode b5_bestCancellation 42 = .ok (.istore 4, 2) := by decide +kernel
theorem d5_bestCancellation_44 : decode b5_bestCancellation 44 = .ok (.iconst (-1), 1) := by decide +kernel
theorem d5_bestCancellation_45 : decode b5_bestCancellation 45 = .ok (.istore 5, 2) := by decide +kernel
theorem d5_bestCancellation_47 : decode b5_bestCancellation 47 = .ok (.iconst 0, 1) := by decide +kernel
theorem d5_bestCancellation_48 : decode b5_bestCancellation 48 = .ok (.istore 6, 2) := by decide +kernel
theorem d5_bestCancellation_50 : decode b5_bestCancellation 50 = .ok (.iconst 0, 1) := by decide +kernel
theorem d5_bestCancellation_51 : decode b5_bestCancellation 51 = .ok (.istore 7, 2) := by decide +kernel
theorem d5_bestCancellation_53 : decode b5_bestCancellation 53 = .ok (.iload 7, 2) := by decide +kernel
theorem d5_bestCancellation_55 : decode b5_bestCancellation 55 = .ok (.aload_n 0, 1) := by decide +kernel
theorem d5_bestCancellation_56 : decode b5_bestCancellation 56 = .ok (.getfield 36, 3) := by decide +kernel
theorem d5_bestCancellation_59 : decode b5_bestCancellation 59 = .ok (.getfield 175, 3) := by decide +kernel
theorem d5_bestCancellation_62 : decode b5_bestCancellation 62 = .ok (.if_icmp .ge 61, 3) := by decide +kernel
theorem d5_bestCancellation_65 : decode b5_bestCancellation 65 = .ok (.aload_n 0, 1) := by decide +kernel
theorem d5_bestCancellation_66 : decode b5_bestCancellation 66 = .ok (.iload_n 2, 1) := by decide +kernel
theorem d5_bestCancellation_67 : decode b5_bestCancellation 67 = .ok (.iload_n 3, 1) := by decide +kernel
theorem d5_bestCancellation_68 : decode b5_bestCancellation 68 = .ok (.sipush 999, 3) := by decide +kernel
theorem d5_bestCancellation_71 : decode b5_bestCancellation 71 = .ok (.iload 4, 2) := by decide +kernel
theorem d5_bestCancellation_73 : decode b5_bestCancellation 73 = .ok (.iload 7, 2) := by decide +kernel
theorem d5_bestCancellation_75 : decode b5_bestCancellation 75 = .ok (.invokevirtual 213, 3) := by decide +kernel
theorem d5_bestCancellation_78 : decode b5_bestCancellation 78 = .ok (.istore 8, 2) := by decide +kernel
theorem d5_bestCancellation_80 : decode b5_bestCancellation 80 = .ok (.iload 8, 2) := by decide +kernel
theorem d5_bestCancellation_82 : decode b5_bestCancellation 82 = .ok (.iconst (-1), 1) := by decide +kernel
theorem d5_bestCancellation_83 : decode b5_bestCancellation 83 = .ok (.if_icmp .ne 9, 3) := by decide +kernel
theorem d5_bestCancellation_86 : decode b5_bestCancellation 86 = .ok (.sipush 1000, 3) := by decide +kernel
theorem d5_bestCancellation_89 : decode b5_bestCancellation 89 = .ok (.goto 5, 3) := by decide +kernel
theorem d5_bestCancellation_92 : decode b5_bestCancellation 92 = .ok (.iload 8, 2) := by decide +kernel
theorem d5_bestCancellation_94 : decode b5_bestCancellation 94 = .ok (.istore 9, 2) := by decide +kernel
theorem d5_bestCancellation_96 : decode b5_bestCancellation 96 = .ok (.iload 5, 2) := by decide +kernel
theorem d5_bestCancellation_98 : decode b5_bestCancellation 98 = .ok (.iconst (-1), 1) := by decide +kernel
theorem d5_bestCancellation_99 : decode b5_bestCancellation 99 = .ok (.if_icmp .eq 10, 3) := by decide +kernel
theorem d5_bestCancellation_102 : decode b5_bestCancellation 102 = .ok (.iload 9, 2) := by decide +kernel
theorem d5_bestCancellation_104 : decode b5_bestCancellation 104 = .ok (.iload 6, 2) := by decide +kernel
theorem d5_bestCancellation_106 : decode b5_bestCancellation 106 = .ok (.if_icmp .ge 11, 3) := by decide +kernel
theorem d5_bestCancellation_109 : decode b5_bestCancellation 109 = .ok (.iload 7, 2) := by decide +kernel
theorem d5_bestCancellation_111 : decode b5_bestCancellation 111 = .ok (.istore 5, 2) := by decide +kernel
theorem d5_bestCancellation_113 : decode b5_bestCancellation 113 = .ok (.iload 9, 2) := by decide +kernel
theorem d5_bestCancellation_115 : decode b5_bestCancellation 115 = .ok (.istore 6, 2) := by decide +kernel
theorem d5_bestCancellation_117 : decode b5_bestCancellation 117 = .ok (.iinc 7 1, 3) := by decide +kernel
theorem d5_bestCancellation_120 : decode b5_bestCancellation 120 = .ok (.goto (-67), 3) := by decide +kernel
theorem d5_bestCancellation_123 : decode b5_bestCancellation 123 = .ok (.iload 5, 2) := by decide +kernel
theorem d5_bestCancellation_125 : decode b5_bestCancellation 125 = .ok (.ireturn, 1) := by decide +kernel
abbrev b5_directionSwitches : ByteArray := prog_1_method_32_code
def y5_directionSwitches : MethodName := ⟨"ChannelSchedule", "directionSwitches", "()I"⟩
theorem w5_directionSwitches : YV y5_directionSwitches b5_directionSwitches 3 (some .int) 0 := ⟨LW_i 540 (by decide +kernel) (by decide +kernel), LW_i 541 (by decide +kernel) (by decide +kernel), LW_i 110 (by decide +kernel) (by decide +kernel), LW_i 542 (by decide +kernel) (by decide +kernel), by decide +kernel, by decide +kernel⟩
theorem d5_directionSwitches_0 : decode b5_directionSwitches 0 = .ok (.iconst 0, 1) := by decide +kernel
theorem d5_directionSwitches_1 : decode b5_directionSwitches 1 = .ok (.istore_n 1, 1) := by decide +kernel
theorem d5_directionSwitches_2 : decode b5_directionSwitches 2 = .ok (.iconst 1, 1) := by decide +kernel
theorem d5_directionSwitches_3 : decode b5_directionSwitches 3 = .ok (.istore_n 2, 1) := by decide +kernel
theorem d5_directionSwitches_4 : decode b5_directionSwitches 4 = .ok (.iload_n 2, 1) := by decide +kernel
theorem d5_directionSwitches_5 : decode b5_directionSwitches 5 = .ok (.aload_n 0, 1) := by decide +kernel
theorem d5_directionSwitches_6 : decode b5_directionSwitches 6 = .ok (.getfield 36, 3) := by decide +kernel
theorem d5_directionSwitches_9 : decode b5_directionSwitches 9 = .ok (.getfield 175, 3) := by decide +kernel
theorem d5_directionSwitches_12 : decode b5_directionSwitches 12 = .ok (.if_icmp .ge 35, 3) := by decide +kernel
theorem d5_directionSwitches_15 : decode b5_directionSwitches 15 = .ok (.aload_n 0, 1) := by decide +kernel
theorem d5_directionSwitches_16 : decode b5_directionSwitches 16 = .ok (.getfield 36, 3) := by decide +kernel
theorem d5_directionSwitches_19 : decode b5_directionSwitches 19 = .ok (.getfield 189, 3) := by decide +kernel
theorem d5_directionSwitches_22 : decode b5_directionSwitches 22 = .ok (.iload_n 2, 1) := by decide +kernel
theorem d5_directionSwitches_23 : decode b5_directionSwitches 23 = .ok (.baload, 1) := by decide +kernel
theorem d5_directionSwitches_24 : decode b5_directionSwitches 24 = .ok (.aload_n 0, 1) := by decide +kernel
theorem d5_directionSwitches_25 : decode b5_directionSwitches 25 = .ok (.getfield 36, 3) := by decide +kernel
theorem d5_directionSwitches_28 : decode b5_directionSwitches 28 = .ok (.getfield 189, 3) := by decide +kernel
theorem d5_directionSwitches_31 : decode b5_directionSwitches 31 = .ok (.iload_n 2, 1) := by decide +kernel
theorem d5_directionSwitches_32 : decode b5_directionSwitches 32 = .ok (.iconst 1, 1) := by decide +kernel
theorem d5_directionSwitches_33 : decode b5_directionSwitches 33 = .ok (.isub, 1) := by decide +kernel
theorem d5_directionSwitches_34 : decode b5_directionSwitches 34 = .ok (.baload, 1) := by decide +kernel
theorem d5_directionSwitches_35 : decode b5_directionSwitches 35 = .ok (.if_icmp .eq 6, 3) := by decide +kernel
theorem d5_directionSwitches_38 : decode b5_directionSwitches 38 = .ok (.iinc 1 1, 3) := by decide +kernel
theorem d5_directionSwitches_41 : decode b5_directionSwitches 41 = .ok (.iinc 2 1, 3) := by decide +kernel
theorem d5_directionSwitches_44 : decode b5_directionSwitches 44 = .ok (.goto (-40), 3) := by decide +kernel
theorem d5_directionSwitches_47 : decode b5_directionSwitches 47 = .ok (.iload_n 1, 1) := by decide +kernel
theorem d5_directionSwitches_48 : decode b5_directionSwitches 48 = .ok (.ireturn, 1) := by decide +kernel
abbrev b5_longestConvoy : ByteArray := prog_1_method_33_code
def y5_longestConvoy : MethodName := ⟨"ChannelSchedule", "longestConvoy", "()I"⟩
theorem w5_longestConvoy : YV y5_longestConvoy b5_longestConvoy 5 (some .int) 0 := ⟨LW_i 544 (by decide +kernel) (by decide +kernel), LW_i 545 (by decide +kernel) (by decide +kernel), LW_i 110 (by decide +kernel) (by decide +kernel), LW_i 546 (by decide +kernel) (by decide +kernel), by decide +kernel, by decide +kernel⟩
theorem d5_longestConvoy_0 : decode b5_longestConvoy 0 = .ok (.iconst 0, 1) := by decide +kernel
theorem d5_longestConvoy_1 : decode b5_longestConvoy 1 = .ok (.istore_n 1, 1) := by decide +kernel
theorem d5_longestConvoy_2 : decode b5_longestConvoy 2 = .ok (.iconst 0, 1) := by decide +kernel
theorem d5_longestConvoy_3 : decode b5_longestConvoy 3 = .ok (.istore_n 2, 1) := by decide +kernel
theorem d5_longestConvoy_4 : decode b5_longestConvoy 4 = .ok (.iconst 0, 1) := by decide +kernel
theorem d5_longestConvoy_5 : decode b5_longestConvoy 5 = .ok (.istore_n 3, 1) := by decide +kernel
theorem d5_longestConvoy_6 : decode b5_longestConvoy 6 = .ok (.iload_n 3, 1) := by decide +kernel
theorem d5_longestConvoy_7 : decode b5_longestConvoy 7 = .ok (.aload_n 0, 1) := by decide +kernel
theorem d5_longestConvoy_8 : decode b5_longestConvoy 8 = .ok (.getfield 36, 3) := by decide +kernel
theorem d5_longestConvoy_11 : decode b5_longestConvoy 11 = .ok (.getfield 175, 3) := by decide +kernel
theorem d5_longestConvoy_14 : decode b5_longestConvoy 14 = .ok (.if_icmp .ge 62, 3) := by decide +kernel
theorem d5_longestConvoy_17 : decode b5_longestConvoy 17 = .ok (.iload_n 3, 1) := by decide +kernel
theorem d5_longestConvoy_18 : decode b5_longestConvoy 18 = .ok (.ifCond .le 30, 3) := by decide +kernel
theorem d5_longestConvoy_21 : decode b5_longestConvoy 21 = .ok (.aload_n 0, 1) := by decide +kernel
theorem d5_longestConvoy_22 : decode b5_longestConvoy 22 = .ok (.getfield 36, 3) := by decide +kernel
theorem d5_longestConvoy_25 : decode b5_longestConvoy 25 = .ok (.getfield 189, 3) := by decide +kernel
theorem d5_longestConvoy_28 : decode b5_longestConvoy 28 = .ok (.iload_n 3, 1) := by decide +kernel
theorem d5_longestConvoy_29 : decode b5_longestConvoy 29 = .ok (.baload, 1) := by decide +kernel
theorem d5_longestConvoy_30 : decode b5_longestConvoy 30 = .ok (.aload_n 0, 1) := by decide +kernel
theorem d5_longestConvoy_31 : decode b5_longestConvoy 31 = .ok (.getfield 36, 3) := by decide +kernel
theorem d5_longestConvoy_34 : decode b5_longestConvoy 34 = .ok (.getfield 189, 3) := by decide +kernel
theorem d5_longestConvoy_37 : decode b5_longestConvoy 37 = .ok (.iload_n 3, 1) := by decide +kernel
theorem d5_longestConvoy_38 : decode b5_longestConvoy 38 = .ok (.iconst 1, 1) := by decide +kernel
theorem d5_longestConvoy_39 : decode b5_longestConvoy 39 = .ok (.isub, 1) := by decide +kernel
theorem d5_longestConvoy_40 : decode b5_longestConvoy 40 = .ok (.baload, 1) := by decide +kernel
theorem d5_longestConvoy_41 : decode b5_longestConvoy 41 = .ok (.if_icmp .ne 7, 3) := by decide +kernel
theorem d5_longestConvoy_44 : decode b5_longestConvoy 44 = .ok (.iconst 1, 1) := by decide +kernel
theorem d5_longestConvoy_45 : decode b5_longestConvoy 45 = .ok (.goto 4, 3) := by decide +kernel
theorem d5_longestConvoy_48 : decode b5_longestConvoy 48 = .ok (.iconst 0, 1) := by decide +kernel
theorem d5_longestConvoy_49 : decode b5_longestConvoy 49 = .ok (.istore 4, 2) := by decide +kernel
theorem d5_longestConvoy_51 : decode b5_longestConvoy 51 = .ok (.iload 4, 2) := by decide +kernel
theorem d5_longestConvoy_53 : decode b5_longestConvoy 53 = .ok (.ifCond .eq 9, 3) := by decide +kernel
theorem d5_longestConvoy_56 : decode b5_longestConvoy 56 = .ok (.iload_n 2, 1) := by decide +kernel
theorem d5_longestConvoy_57 : decode b5_longestConvoy 57 = .ok (.iconst 1, 1) := by decide +kernel
theorem d5_longestConvoy_58 : decode b5_longestConvoy 58 = .ok (.iadd, 1) := by decide +kernel
theorem d5_longestConvoy_59 : decode b5_longestConvoy 59 = .ok (.goto 4, 3) := by decide +kernel
theorem d5_longestConvoy_62 : decode b5_longestConvoy 62 = .ok (.iconst 1, 1) := by decide +kernel
theorem d5_longestConvoy_63 : decode b5_longestConvoy 63 = .ok (.istore_n 2, 1) := by decide +kernel
theorem d5_longestConvoy_64 : decode b5_longestConvoy 64 = .ok (.iload_n 1, 1) := by decide +kernel
theorem d5_longestConvoy_65 : decode b5_longestConvoy 65 = .ok (.iload_n 2, 1) := by decide +kernel
theorem d5_longestConvoy_66 : decode b5_longestConvoy 66 = .ok (.invokestatic 200, 3) := by decide +kernel
theorem d5_longestConvoy_69 : decode b5_longestConvoy 69 = .ok (.istore_n 1, 1) := by decide +kernel
theorem d5_longestConvoy_70 : decode b5_longestConvoy 70 = .ok (.iinc 3 1, 3) := by decide +kernel
theorem d5_longestConvoy_73 : decode b5_longestConvoy 73 = .ok (.goto (-67), 3) := by decide +kernel
theorem d5_longestConvoy_76 : decode b5_longestConvoy 76 = .ok (.iload_n 1, 1) := by decide +kernel
theorem d5_longestConvoy_77 : decode b5_longestConvoy 77 = .ok (.ireturn, 1) := by decide +kernel
abbrev b5_slack : ByteArray := prog_1_method_34_code
def y5_slack : MethodName := ⟨"ChannelSchedule", "slack", "(I)I"⟩
theorem w5_slack : YV y5_slack b5_slack 7 (some .int) 1 := ⟨LW_i 963 (by decide +kernel) (by decide +kernel), LW_i 964 (by decide +kernel) (by decide +kernel), LW_i 110 (by decide +kernel) (by decide +kernel), LW_i 965 (by decide +kernel) (by decide +kernel), by decide +kernel, by decide +kernel⟩
theorem d5_slack_0 : decode b5_slack 0 = .ok (.aload_n 0, 1) := by decide +kernel
theorem d5_slack_1 : decode b5_slack 1 = .ok (.iload_n 1, 1) := by decide +kernel
theorem d5_slack_2 : decode b5_slack 2 = .ok (.invokevirtual 178, 3) := by decide +kernel
theorem d5_slack_5 : decode b5_slack 5 = .ok (.invokestatic 136, 3) := by decide +kernel
theorem d5_slack_8 : decode b5_slack 8 = .ok (.aload_n 0, 1) := by decide +kernel
theorem d5_slack_9 : decode b5_slack 9 = .ok (.getfield 36, 3) := by decide +kernel
theorem d5_slack_12 : decode b5_slack 12 = .ok (.getfield 183, 3) := by decide +kernel
theorem d5_slack_15 : decode b5_slack 15 = .ok (.iload_n 1, 1) := by decide +kernel
theorem d5_slack_16 : decode b5_slack 16 = .ok (.iaload, 1) := by decide +kernel
theorem d5_slack_17 : decode b5_slack 17 = .ok (.istore_n 2, 1) := by decide +kernel
theorem d5_slack_18 : decode b5_slack 18 = .ok (.aload_n 0, 1) := by decide +kernel
theorem d5_slack_19 : decode b5_slack 19 = .ok (.getfield 36, 3) := by decide +kernel
theorem d5_slack_22 : decode b5_slack 22 = .ok (.getfield 186, 3) := by decide +kernel
theorem d5_slack_25 : decode b5_slack 25 = .ok (.iload_n 1, 1) := by decide +kernel
theorem d5_slack_26 : decode b5_slack 26 = .ok (.iaload, 1) := by decide +kernel
theorem d5_slack_27 : decode b5_slack 27 = .ok (.iload_n 2, 1) := by decide +kernel
theorem d5_slack_28 : decode b5_slack 28 = .ok (.isub, 1) := by decide +kernel
theorem d5_slack_29 : decode b5_slack 29 = .ok (.istore_n 3, 1) := by decide +kernel
theorem d5_slack_30 : decode b5_slack 30 = .ok (.sipush 999, 3) := by decide +kernel
theorem d5_slack_33 : decode b5_slack 33 = .ok (.istore 4, 2) := by decide +kernel
theorem d5_slack_35 : decode b5_slack 35 = .ok (.iload_n 1, 1) := by decide +kernel
theorem d5_slack_36 : decode b5_slack 36 = .ok (.iconst 1, 1) := by decide +kernel
theorem d5_slack_37 : decode b5_slack 37 = .ok (.iadd, 1) := by decide +kernel
theorem d5_slack_38 : decode b5_slack 38 = .ok (.istore 5, 2) := by decide +kernel
theorem d5_slack_40 : decode b5_slack 40 = .ok (.iload 5, 2) := by decide +kernel
theorem d5_slack_42 : decode b5_slack 42 = .ok (.aload_n 0, 1) := by decide +kernel
theorem d5_slack_43 : decode b5_slack 43 = .ok (.getfield 36, 3) := by decide +kernel
theorem d5_slack_46 : decode b5_slack 46 = .ok (.getfield 175, 3) := by decide +kernel
theorem d5_slack_49 : decode b5_slack 49 = .ok (.if_icmp .ge 72, 3) := by decide +kernel
theorem d5_slack_52 : decode b5_slack 52 = .ok (.aload_n 0, 1) := by decide +kernel
theorem d5_slack_53 : decode b5_slack 53 = .ok (.getfield 36, 3) := by decide +kernel
theorem d5_slack_56 : decode b5_slack 56 = .ok (.getfield 189, 3) := by decide +kernel
theorem d5_slack_59 : decode b5_slack 59 = .ok (.iload 5, 2) := by decide +kernel
theorem d5_slack_61 : decode b5_slack 61 = .ok (.baload, 1) := by decide +kernel
theorem d5_slack_62 : decode b5_slack 62 = .ok (.aload_n 0, 1) := by decide +kernel
theorem d5_slack_63 : decode b5_slack 63 = .ok (.getfield 36, 3) := by decide +kernel
theorem d5_slack_66 : decode b5_slack 66 = .ok (.getfield 189, 3) := by decide +kernel
theorem d5_slack_69 : decode b5_slack 69 = .ok (.iload_n 1, 1) := by decide +kernel
theorem d5_slack_70 : decode b5_slack 70 = .ok (.baload, 1) := by decide +kernel
theorem d5_slack_71 : decode b5_slack 71 = .ok (.if_icmp .ne 7, 3) := by decide +kernel
theorem d5_slack_74 : decode b5_slack 74 = .ok (.iconst 1, 1) := by decide +kernel
theorem d5_slack_75 : decode b5_slack 75 = .ok (.goto 4, 3) := by decide +kernel
theorem d5_slack_78 : decode b5_slack 78 = .ok (.iconst 0, 1) := by decide +kernel
theorem d5_slack_79 : decode b5_slack 79 = .ok (.istore 6, 2) := by decide +kernel
theorem d5_slack_81 : decode b5_slack 81 = .ok (.iload 4, 2) := by decide +kernel
theorem d5_slack_83 : decode b5_slack 83 = .ok (.aload_n 0, 1) := by decide +kernel
theorem d5_slack_84 : decode b5_slack 84 = .ok (.aload_n 0, 1) := by decide +kernel
theorem d5_slack_85 : decode b5_slack 85 = .ok (.getfield 36, 3) := by decide +kernel
theorem d5_slack_88 : decode b5_slack 88 = .ok (.getfield 183, 3) := by decide +kernel
theorem d5_slack_91 : decode b5_slack 91 = .ok (.iload 5, 2) := by decide +kernel
theorem d5_slack_93 : decode b5_slack 93 = .ok (.iaload, 1) := by decide +kernel
theorem d5_slack_94 : decode b5_slack 94 = .ok (.aload_n 0, 1) := by decide +kernel
theorem d5_slack_95 : decode b5_slack 95 = .ok (.getfield 36, 3) := by decide +kernel
theorem d5_slack_98 : decode b5_slack 98 = .ok (.getfield 186, 3) := by decide +kernel
theorem d5_slack_101 : decode b5_slack 101 = .ok (.iload 5, 2) := by decide +kernel
theorem d5_slack_103 : decode b5_slack 103 = .ok (.iaload, 1) := by decide +kernel
theorem d5_slack_104 : decode b5_slack 104 = .ok (.iload 6, 2) := by decide +kernel
theorem d5_slack_106 : decode b5_slack 106 = .ok (.iload_n 3, 1) := by decide +kernel
theorem d5_slack_107 : decode b5_slack 107 = .ok (.invokevirtual 224, 3) := by decide +kernel
theorem d5_slack_110 : decode b5_slack 110 = .ok (.invokestatic 217, 3) := by decide +kernel
theorem d5_slack_113 : decode b5_slack 113 = .ok (.istore 4, 2) := by decide +kernel
theorem d5_slack_115 : decode b5_slack 115 = .ok (.iinc 5 1, 3) := by decide +kernel
theorem d5_slack_118 : decode b5_slack 118 = .ok (.goto (-78), 3) := by decide +kernel
theorem d5_slack_121 : decode b5_slack 121 = .ok (.iload 4, 2) := by decide +kernel
theorem d5_slack_123 : decode b5_slack 123 = .ok (.iload_n 2, 1) := by decide +kernel
theorem d5_slack_124 : decode b5_slack 124 = .ok (.isub, 1) := by decide +kernel
theorem d5_slack_125 : decode b5_slack 125 = .ok (.ireturn, 1) := by decide +kernel
abbrev b5_whyNotMovable : ByteArray := prog_1_method_35_code
def y5_whyNotMovable : MethodName := ⟨"ChannelSchedule", "whyNotMovable", "(II)I"⟩
theorem w5_whyNotMovable : YV y5_whyNotMovable b5_whyNotMovable 3 (some .int) 2 := ⟨LW_i 970 (by decide +kernel) (by decide +kernel), LW_i 971 (by decide +kernel) (by decide +kernel), LW_i 110 (by decide +kernel) (by decide +kernel), LW_i 972 (by decide +kernel) (by decide +kernel), by decide +kernel, by decide +kernel⟩
theorem d5_whyNotMovable_0 : decode b5_whyNotMovable 0 = .ok (.aload_n 0, 1) := by decide +kernel
theorem d5_whyNotMovable_1 : decode b5_whyNotMovable 1 = .ok (.iload_n 1, 1) := by decide +kernel
theorem d5_whyNotMovable_2 : decode b5_whyNotMovable 2 = .ok (.invokevirtual 178, 3) := by decide +kernel
theorem d5_whyNotMovable_5 : decode b5_whyNotMovable 5 = .ok (.invokestatic 136, 3) := by decide +kernel
theorem d5_whyNotMovable_8 : decode b5_whyNotMovable 8 = .ok (.iload_n 2, 1) := by decide +kernel
theorem d5_whyNotMovable_9 : decode b5_whyNotMovable 9 = .ok (.iconst 0, 1) := by decide +kernel
theorem d5_whyNotMovable_10 : decode b5_whyNotMovable 10 = .ok (.sipush 999, 3) := by decide +kernel
theorem d5_whyNotMovable_13 : decode b5_whyNotMovable 13 = .ok (.invokestatic 104, 3) := by decide +kernel
theorem d5_whyNotMovable_16 : decode b5_whyNotMovable 16 = .ok (.invokestatic 108, 3) := by decide +kernel
theorem d5_whyNotMovable_19 : decode b5_whyNotMovable 19 = .ok (.aload_n 0, 1) := by decide +kernel
theorem d5_whyNotMovable_20 : decode b5_whyNotMovable 20 = .ok (.iload_n 1, 1) := by decide +kernel
theorem d5_whyNotMovable_21 : decode b5_whyNotMovable 21 = .ok (.iload_n 2, 1) := by decide +kernel
theorem d5_whyNotMovable_22 : decode b5_whyNotMovable 22 = .ok (.invokevirtual 228, 3) := by decide +kernel
theorem d5_whyNotMovable_25 : decode b5_whyNotMovable 25 = .ok (.ireturn, 1) := by decide +kernel
abbrev b5_requestCount : ByteArray := prog_1_method_36_code
def y5_requestCount : MethodName := ⟨"ChannelSchedule", "requestCount", "()I"⟩
theorem w5_requestCount : YV y5_requestCount b5_requestCount 1 (some .int) 0 := ⟨LW_i 551 (by decide +kernel) (by decide +kernel), LW_i 552 (by decide +kernel) (by decide +kernel), LW_i 110 (by decide +kernel) (by decide +kernel), LW_i 553 (by decide +kernel) (by decide +kernel), by decide +kernel, by decide +kernel⟩
theorem d5_requestCount_0 : decode b5_requestCount 0 = .ok (.aload_n 0, 1) := by decide +kernel
theorem d5_requestCount_1 : decode b5_requestCount 1 = .ok (.getfield 36, 3) := by decide +kernel
theorem d5_requestCount_4 : decode b5_requestCount 4 = .ok (.getfield 231, 3) := by decide +kernel
theorem d5_requestCount_7 : decode b5_requestCount 7 = .ok (.ireturn, 1) := by decide +kernel
abbrev b5_requestedShip : ByteArray := prog_1_method_37_code
def y5_requestedShip : MethodName := ⟨"ChannelSchedule", "requestedShip", "(I)I"⟩
theorem w5_requestedShip : YV y5_requestedShip b5_requestedShip 2 (some .int) 1 := ⟨LW_i 981 (by decide +kernel) (by decide +kernel), LW_i 982 (by decide +kernel) (by decide +kernel), LW_i 110 (by decide +kernel) (by decide +kernel), LW_i 983 (by decide +kernel) (by decide +kernel), by decide +kernel, by decide +kernel⟩
theorem d5_requestedShip_0 : decode b5_requestedShip 0 = .ok (.aload_n 0, 1) := by decide +kernel
theorem d5_requestedShip_1 : decode b5_requestedShip 1 = .ok (.iload_n 1, 1) := by decide +kernel
theorem d5_requestedShip_2 : decode b5_requestedShip 2 = .ok (.invokevirtual 234, 3) := by decide +kernel
theorem d5_requestedShip_5 : decode b5_requestedShip 5 = .ok (.invokestatic 136, 3) := by decide +kernel
theorem d5_requestedShip_8 : decode b5_requestedShip 8 = .ok (.aload_n 0, 1) := by decide +kernel
theorem d5_requestedShip_9 : decode b5_requestedShip 9 = .ok (.getfield 36, 3) := by decide +kernel
theorem d5_requestedShip_12 : decode b5_requestedShip 12 = .ok (.getfield 237, 3) := by decide +kernel
theorem d5_requestedShip_15 : decode b5_requestedShip 15 = .ok (.iload_n 1, 1) := by decide +kernel
theorem d5_requestedShip_16 : decode b5_requestedShip 16 = .ok (.iaload, 1) := by decide +kernel
theorem d5_requestedShip_17 : decode b5_requestedShip 17 = .ok (.ireturn, 1) := by decide +kernel
abbrev b5_isRequestInbound : ByteArray := prog_1_method_38_code
def y5_isRequestInbound : MethodName := ⟨"ChannelSchedule", "isRequestInbound", "(I)Z"⟩
theorem w5_isRequestInbound : YV y5_isRequestInbound b5_isRequestInbound 2 (some .boolean) 1 := ⟨LW_i 992 (by decide +kernel) (by decide +kernel), LW_i 993 (by decide +kernel) (by decide +kernel), LW_i 110 (by decide +kernel) (by decide +kernel), LW_i 994 (by decide +kernel) (by decide +kernel), by decide +kernel, by decide +kernel⟩
theorem d5_isRequestInbound_0 : decode b5_isRequestInbound 0 = .ok (.aload_n 0, 1) := by decide +kernel
theorem d5_isRequestInbound_1 : decode b5_isRequestInbound 1 = .ok (.iload_n 1, 1) := by decide +kernel
theorem d5_isRequestInbound_2 : decode b5_isRequestInbound 2 = .ok (.invokevirtual 234, 3) := by decide +kernel
theorem d5_isRequestInbound_5 : decode b5_isRequestInbound 5 = .ok (.invokestatic 136, 3) := by decide +kernel
theorem d5_isRequestInbound_8 : decode b5_isRequestInbound 8 = .ok (.aload_n 0, 1) := by decide +kernel
theorem d5_isRequestInbound_9 : decode b5_isRequestInbound 9 = .ok (.getfield 36, 3) := by decide +kernel
theorem d5_isRequestInbound_12 : decode b5_isRequestInbound 12 = .ok (.getfield 240, 3) := by decide +kernel
theorem d5_isRequestInbound_15 : decode b5_isRequestInbound 15 = .ok (.iload_n 1, 1) := by decide +kernel
theorem d5_isRequestInbound_16 : decode b5_isRequestInbound 16 = .ok (.baload, 1) := by decide +kernel
theorem d5_isRequestInbound_17 : decode b5_isRequestInbound 17 = .ok (.ireturn, 1) := by decide +kernel
abbrev b5_earliestRequested : ByteArray := prog_1_method_39_code
def y5_earliestRequested : MethodName := ⟨"ChannelSchedule", "earliestRequested", "(I)I"⟩
theorem w5_earliestRequested : YV y5_earliestRequested b5_earliestRequested 2 (some .int) 1 := ⟨LW_i 999 (by decide +kernel) (by decide +kernel), LW_i 1000 (by decide +kernel) (by decide +kernel), LW_i 110 (by decide +kernel) (by decide +kernel), LW_i 1001 (by decide +kernel) (by decide +kernel), by decide +kernel, by decide +kernel⟩
theorem d5_earliestRequested_0 : decode b5_earliestRequested 0 = .ok (.aload_n 0, 1) := by decide +kernel
theorem d5_earliestRequested_1 : decode b5_earliestRequested 1 = .ok (.iload_n 1, 1) := by decide +kernel
theorem d5_earliestRequested_2 : decode b5_earliestRequested 2 = .ok (.invokevirtual 234, 3) := by decide +kernel
theorem d5_earliestRequested_5 : decode b5_earliestRequested 5 = .ok (.invokestatic 136, 3) := by decide +kernel
theorem d5_earliestRequested_8 : decode b5_earliestRequested 8 = .ok (.aload_n 0, 1) := by decide +kernel
theorem d5_earliestRequested_9 : decode b5_earliestRequested 9 = .ok (.getfield 36, 3) := by decide +kernel
theorem d5_earliestRequested_12 : decode b5_earliestRequested 12 = .ok (.getfield 243, 3) := by decide +kernel
theorem d5_earliestRequested_15 : decode b5_earliestRequested 15 = .ok (.iload_n 1, 1) := by decide +kernel
theorem d5_earliestRequested_16 : decode b5_earliestRequested 16 = .ok (.iaload, 1) := by decide +kernel
theorem d5_earliestRequested_17 : decode b5_earliestRequested 17 = .ok (.ireturn, 1) := by decide +kernel
abbrev b5_latestRequested : ByteArray := prog_1_method_40_code
def y5_latestRequested : MethodName := ⟨"ChannelSchedule", "latestRequested", "(I)I"⟩
theorem w5_latestRequested : YV y5_latestRequested b5_latestRequested 2 (some .int) 1 := ⟨LW_i 1006 (by decide +kernel) (by decide +kernel), LW_i 1007 (by decide +kernel) (by decide +kernel), LW_i 110 (by decide +kernel) (by decide +kernel), LW_i 1008 (by decide +kernel) (by decide +kernel), by decide +kernel, by decide +kernel⟩
theorem d5_latestRequested_0 : decode b5_latestRequested 0 = .ok (.aload_n 0, 1) := by decide +kernel
theorem d5_latestRequested_1 : decode b5_latestRequested 1 = .ok (.iload_n 1, 1) := by decide +kernel
theorem d5_latestRequested_2 : decode b5_latestRequested 2 = .ok (.invokevirtual 234, 3) := by decide +kernel
theorem d5_latestRequested_5 : decode b5_latestRequested 5 = .ok (.invokestatic 136, 3) := by decide +kernel
theorem d5_latestRequested_8 : decode b5_latestRequested 8 = .ok (.aload_n 0, 1) := by decide +kernel
theorem d5_latestRequested_9 : decode b5_latestRequested 9 = .ok (.getfield 36, 3) := by decide +kernel
theorem d5_latestRequested_12 : decode b5_latestRequested 12 = .ok (.getfield 246, 3) := by decide +kernel
theorem d5_latestRequested_15 : decode b5_latestRequested 15 = .ok (.iload_n 1, 1) := by decide +kernel
theorem d5_latestRequested_16 : decode b5_latestRequested 16 = .ok (.iaload, 1) := by decide +kernel
theorem d5_latestRequested_17 : decode b5_latestRequested 17 = .ok (.ireturn, 1) := by decide +kernel
abbrev b5_whyNotFeasible : ByteArray := prog_1_method_41_code
def y5_whyNotFeasible : MethodName := ⟨"ChannelSchedule", "whyNotFeasible", "(I)I"⟩
theorem w5_whyNotFeasible : YV y5_whyNotFeasible b5_whyNotFeasible 2 (some .int) 1 := ⟨LW_i 1013 (by decide +kernel) (by decide +kernel), LW_i 1014 (by decide +kernel) (by decide +kernel), LW_i 110 (by decide +kernel) (by decide +kernel), LW_i 1015 (by decide +kernel) (by decide +kernel), by decide +kernel, by decide +kernel⟩
theorem d5_whyNotFeasible_0 : decode b5_whyNotFeasible 0 = .ok (.aload_n 0, 1) := by decide +kernel
theorem d5_whyNotFeasible_1 : decode b5_whyNotFeasible 1 = .ok (.iload_n 1, 1) := by decide +kernel
theorem d5_whyNotFeasible_2 : decode b5_whyNotFeasible 2 = .ok (.invokevirtual 234, 3) := by decide +kernel
theorem d5_whyNotFeasible_5 : decode b5_whyNotFeasible 5 = .ok (.invokestatic 136, 3) := by decide +kernel
theorem d5_whyNotFeasible_8 : decode b5_whyNotFeasible 8 = .ok (.aload_n 0, 1) := by decide +kernel
theorem d5_whyNotFeasible_9 : decode b5_whyNotFeasible 9 = .ok (.getfield 36, 3) := by decide +kernel
theorem d5_whyNotFeasible_12 : decode b5_whyNotFeasible 12 = .ok (.getfield 246, 3) := by decide +kernel
theorem d5_whyNotFeasible_15 : decode b5_whyNotFeasible 15 = .ok (.iload_n 1, 1) := by decide +kernel
theorem d5_whyNotFeasible_16 : decode b5_whyNotFeasible 16 = .ok (.iaload, 1) := by decide +kernel
theorem d5_whyNotFeasible_17 : decode b5_whyNotFeasible 17 = .ok (.aload_n 0, 1) := by decide +kernel
theorem d5_whyNotFeasible_18 : decode b5_whyNotFeasible 18 = .ok (.getfield 36, 3) := by decide +kernel
theorem d5_whyNotFeasible_21 : decode b5_whyNotFeasible 21 = .ok (.getfield 129, 3) := by decide +kernel
theorem d5_whyNotFeasible_24 : decode b5_whyNotFeasible 24 = .ok (.if_icmp .ge 5, 3) := by decide +kernel
theorem d5_whyNotFeasible_27 : decode b5_whyNotFeasible 27 = .ok (.iconst 1, 1) := by decide +kernel
theorem d5_whyNotFeasible_28 : decode b5_whyNotFeasible 28 = .ok (.ireturn, 1) := by decide +kernel
theorem d5_whyNotFeasible_29 : decode b5_whyNotFeasible 29 = .ok (.aload_n 0, 1) := by decide +kernel
theorem d5_whyNotFeasible_30 : decode b5_whyNotFeasible 30 = .ok (.getfield 36, 3) := by decide +kernel
theorem d5_whyNotFeasible_33 : decode b5_whyNotFeasible 33 = .ok (.getfield 175, 3) := by decide +kernel
theorem d5_whyNotFeasible_36 : decode b5_whyNotFeasible 36 = .ok (.bipush 20, 2) := by decide +kernel
theorem d5_whyNotFeasible_38 : decode b5_whyNotFeasible 38 = .ok (.if_icmp .ne 5, 3) := by decide +kernel
theorem d5_whyNotFeasible_41 : decode b5_whyNotFeasible 41 = .ok (.iconst 2, 1) := by decide +kernel
theorem d5_whyNotFeasible_42 : decode b5_whyNotFeasible 42 = .ok (.ireturn, 1) := by decide +kernel
theorem d5_whyNotFeasible_43 : decode b5_whyNotFeasible 43 = .ok (.aload_n 0, 1) := by decide +kernel
theorem d5_whyNotFeasible_44 : decode b5_whyNotFeasible 44 = .ok (.iload_n 1, 1) := by decide +kernel
theorem d5_whyNotFeasible_45 : decode b5_whyNotFeasible 45 = .ok (.invokevirtual 249, 3) := by decide +kernel
theorem d5_whyNotFeasible_48 : decode b5_whyNotFeasible 48 = .ok (.iconst (-1), 1) := by decide +kernel
theorem d5_whyNotFeasible_49 : decode b5_whyNotFeasible 49 = .ok (.if_icmp .ne 7, 3) := by decide +kernel
theorem d5_whyNotFeasible_52 : decode b5_whyNotFeasible 52 = .ok (.iconst 3, 1) := by decide +kernel
theorem d5_whyNotFeasible_53 : decode b5_whyNotFeasible 53 = .ok (.goto 4, 3) := by decide +kernel
theorem d5_whyNotFeasible_56 : decode b5_whyNotFeasible 56 = .ok (.iconst 0, 1) := by decide +kernel
theorem d5_whyNotFeasible_57 : decode b5_whyNotFeasible 57 = .ok (.ireturn, 1) := by decide +kernel
abbrev b5_bestValue : ByteArray := prog_1_method_42_code
def y5_bestValue : MethodName := ⟨"ChannelSchedule", "bestValue", "()I"⟩
theorem w5_bestValue : YV y5_bestValue b5_bestValue 1 (some .int) 0 := ⟨LW_i 555 (by decide +kernel) (by decide +kernel), LW_i 556 (by decide +kernel) (by decide +kernel), LW_i 110 (by decide +kernel) (by decide +kernel), LW_i 557 (by decide +kernel) (by decide +kernel), by decide +kernel, by decide +kernel⟩
theorem d5_bestValue_0 : decode b5_bestValue 0 = .ok (.aload_n 0, 1) := by decide +kernel
theorem d5_bestValue_1 : decode b5_bestValue 1 = .ok (.aload_n 0, 1) := by decide +kernel
theorem d5_bestValue_2 : decode b5_bestValue 2 = .ok (.invokevirtual 252, 3) := by decide +kernel
theorem d5_bestValue_5 : decode b5_bestValue 5 = .ok (.invokevirtual 255, 3) := by decide +kernel
theorem d5_bestValue_8 : decode b5_bestValue 8 = .ok (.ireturn, 1) := by decide +kernel
abbrev b5_isSelected : ByteArray := prog_1_method_43_code
def y5_isSelected : MethodName := ⟨"ChannelSchedule", "isSelected", "(I)Z"⟩
theorem w5_isSelected : YV y5_isSelected b5_isSelected 2 (some .boolean) 1 := ⟨LW_i 1028 (by decide +kernel) (by decide +kernel), LW_i 1029 (by decide +kernel) (by decide +kernel), LW_i 110 (by decide +kernel) (by decide +kernel), LW_i 1030 (by decide +kernel) (by decide +kernel), by decide +kernel, by decide +kernel⟩
theorem d5_isSelected_0 : decode b5_isSelected 0 = .ok (.aload_n 0, 1) := by decide +kernel
theorem d5_isSelected_1 : decode b5_isSelected 1 = .ok (.iload_n 1, 1) := by decide +kernel
theorem d5_isSelected_2 : decode b5_isSelected 2 = .ok (.invokevirtual 234, 3) := by decide +kernel
theorem d5_isSelected_5 : decode b5_isSelected 5 = .ok (.invokestatic 136, 3) := by decide +kernel
theorem d5_isSelected_8 : decode b5_isSelected 8 = .ok (.aload_n 0, 1) := by decide +kernel
theorem d5_isSelected_9 : decode b5_isSelected 9 = .ok (.invokevirtual 252, 3) := by decide +kernel
theorem d5_isSelected_12 : decode b5_isSelected 12 = .ok (.aload_n 0, 1) := by decide +kernel
theorem d5_isSelected_13 : decode b5_isSelected 13 = .ok (.iload_n 1, 1) := by decide +kernel
theorem d5_isSelected_14 : decode b5_isSelected 14 = .ok (.invokevirtual 258, 3) := by decide +kernel
theorem d5_isSelected_17 : decode b5_isSelected 17 = .ok (.iand, 1) := by decide +kernel
theorem d5_isSelected_18 : decode b5_isSelected 18 = .ok (.ifCond .eq 7, 3) := by decide +kernel
theorem d5_isSelected_21 : decode b5_isSelected 21 = .ok (.iconst 1, 1) := by decide +kernel
theorem d5_isSelected_22 : decode b5_isSelected 22 = .ok (.goto 4, 3) := by decide +kernel
theorem d5_isSelected_25 : decode b5_isSelected 25 = .ok (.iconst 0, 1) := by decide +kernel
theorem d5_isSelected_26 : decode b5_isSelected 26 = .ok (.ireturn, 1) := by decide +kernel
abbrev b5_servedWithout : ByteArray := prog_1_method_44_code
def y5_servedWithout : MethodName := ⟨"ChannelSchedule", "servedWithout", "(I)I"⟩
theorem w5_servedWithout : YV y5_servedWithout b5_servedWithout 3 (some .int) 1 := ⟨LW_i 1035 (by decide +kernel) (by decide +kernel), LW_i 1036 (by decide +kernel) (by decide +kernel), LW_i 110 (by decide +kernel) (by decide +kernel), LW_i 1037 (by decide +kernel) (by decide +kernel), by decide +kernel, by decide +kernel⟩
theorem d5_servedWithout_0 : decode b5_servedWithout 0 = .ok (.aload_n 0, 1) := by decide +kernel
theorem d5_servedWithout_1 : decode b5_servedWithout 1 = .ok (.iload_n 1, 1) := by decide +kernel
theorem d5_servedWithout_2 : decode b5_servedWithout 2 = .ok (.invokevirtual 178, 3) := by decide +kernel
theorem d5_servedWithout_5 : decode b5_servedWithout 5 = .ok (.invokestatic 136, 3) := by decide +kernel
theorem d5_servedWithout_8 : decode b5_servedWithout 8 = .ok (.aload_n 0, 1) := by decide +kernel
theorem d5_servedWithout_9 : decode b5_servedWithout 9 = .ok (.getfield 40, 3) := by decide +kernel
theorem d5_servedWithout_12 : decode b5_servedWithout 12 = .ok (.aload_n 0, 1) := by decide +kernel
theorem d5_servedWithout_13 : decode b5_servedWithout 13 = .ok (.getfield 36, 3) := by decide +kernel
theorem d5_servedWithout_16 : decode b5_servedWithout 16 = .ok (.invokevirtual 261, 3) := by decide +kernel
theorem d5_servedWithout_19 : decode b5_servedWithout 19 = .ok (.aload_n 0, 1) := by decide +kernel
theorem d5_servedWithout_20 : decode b5_servedWithout 20 = .ok (.iload_n 1, 1) := by decide +kernel
theorem d5_servedWithout_21 : decode b5_servedWithout 21 = .ok (.invokevirtual 265, 3) := by decide +kernel
theorem d5_servedWithout_24 : decode b5_servedWithout 24 = .ok (.istore_n 2, 1) := by decide +kernel
theorem d5_servedWithout_25 : decode b5_servedWithout 25 = .ok (.aload_n 0, 1) := by decide +kernel
theorem d5_servedWithout_26 : decode b5_servedWithout 26 = .ok (.getfield 36, 3) := by decide +kernel
theorem d5_servedWithout_29 : decode b5_servedWithout 29 = .ok (.aload_n 0, 1) := by decide +kernel
theorem d5_servedWithout_30 : decode b5_servedWithout 30 = .ok (.getfield 40, 3) := by decide +kernel
theorem d5_servedWithout_33 : decode b5_servedWithout 33 = .ok (.invokevirtual 261, 3) := by decide +kernel
theorem d5_servedWithout_36 : decode b5_servedWithout 36 = .ok (.iload_n 2, 1) := by decide +kernel
theorem d5_servedWithout_37 : decode b5_servedWithout 37 = .ok (.ireturn, 1) := by decide +kernel
abbrev b5_feasibleStart : ByteArray := prog_1_method_45_code
def y5_feasibleStart : MethodName := ⟨"ChannelSchedule", "feasibleStart", "(I)I"⟩
theorem w5_feasibleStart : YV y5_feasibleStart b5_feasibleStart 2 (some .int) 1 := ⟨LW_i 1078 (by decide +kernel) (by decide +kernel), LW_i 1079 (by decide +kernel) (by decide +kernel), LW_i 110 (by decide +kernel) (by decide +kernel), LW_i 1080 (by decide +kernel) (by decide +kernel), by decide +kernel, by decide +kernel⟩
theorem d5_feasibleStart_0 : decode b5_feasibleStart 0 = .ok (.aload_n 0, 1) := by decide +kernel
theorem d5_feasibleStart_1 : decode b5_feasibleStart 1 = .ok (.iload_n 1, 1) := by decide +kernel
theorem d5_feasibleStart_2 : decode b5_feasibleStart 2 = .ok (.invokevirtual 234, 3) := by decide +kernel
theorem d5_feasibleStart_5 : decode b5_feasibleStart 5 = .ok (.invokestatic 136, 3) := by decide +kernel
theorem d5_feasibleStart_8 : decode b5_feasibleStart 8 = .ok (.aload_n 0, 1) := by decide +kernel
theorem d5_feasibleStart_9 : decode b5_feasibleStart 9 = .ok (.iload_n 1, 1) := by decide +kernel
theorem d5_feasibleStart_10 : decode b5_feasibleStart 10 = .ok (.invokevirtual 249, 3) := by decide +kernel
theorem d5_feasibleStart_13 : decode b5_feasibleStart 13 = .ok (.ireturn, 1) := by decide +kernel
abbrev b5_waitingWeight : ByteArray := prog_1_method_46_code
def y5_waitingWeight : MethodName := ⟨"ChannelSchedule", "waitingWeight", "()I"⟩
theorem w5_waitingWeight : YV y5_waitingWeight b5_waitingWeight 3 (some .int) 0 := ⟨LW_i 603 (by decide +kernel) (by decide +kernel), LW_i 604 (by decide +kernel) (by decide +kernel), LW_i 110 (by decide +kernel) (by decide +kernel), LW_i 605 (by decide +kernel) (by decide +kernel), by decide +kernel, by decide +kernel⟩
theorem d5_waitingWeight_0 : decode b5_waitingWeight 0 = .ok (.iconst 0, 1) := by decide +kernel
theorem d5_waitingWeight_1 : decode b5_waitingWeight 1 = .ok (.istore_n 1, 1) := by decide +kernel
theorem d5_waitingWeight_2 : decode b5_waitingWeight 2 = .ok (.iconst 0, 1) := by decide +kernel
theorem d5_waitingWeight_3 : decode b5_waitingWeight 3 = .ok (.istore_n 2, 1) := by decide +kernel
theorem d5_waitingWeight_4 : decode b5_waitingWeight 4 = .ok (.iload_n 2, 1) := by decide +kernel
theorem d5_waitingWeight_5 : decode b5_waitingWeight 5 = .ok (.aload_n 0, 1) := by decide +kernel
theorem d5_waitingWeight_6 : decode b5_waitingWeight 6 = .ok (.getfield 36, 3) := by decide +kernel
theorem d5_waitingWeight_9 : decode b5_waitingWeight 9 = .ok (.getfield 231, 3) := by decide +kernel
theorem d5_waitingWeight_12 : decode b5_waitingWeight 12 = .ok (.if_icmp .ge 32, 3) := by decide +kernel
theorem d5_waitingWeight_15 : decode b5_waitingWeight 15 = .ok (.iload_n 1, 1) := by decide +kernel
theorem d5_waitingWeight_16 : decode b5_waitingWeight 16 = .ok (.aload_n 0, 1) := by decide +kernel
theorem d5_waitingWeight_17 : decode b5_waitingWeight 17 = .ok (.getfield 26, 3) := by decide +kernel
theorem d5_waitingWeight_20 : decode b5_waitingWeight 20 = .ok (.getfield 143, 3) := by decide +kernel
theorem d5_waitingWeight_23 : decode b5_waitingWeight 23 = .ok (.aload_n 0, 1) := by decide +kernel
theorem d5_waitingWeight_24 : decode b5_waitingWeight 24 = .ok (.getfield 36, 3) := by decide +kernel
theorem d5_waitingWeight_27 : decode b5_waitingWeight 27 = .ok (.getfield 237, 3) := by decide +kernel
theorem d5_waitingWeight_30 : decode b5_waitingWeight 30 = .ok (.iload_n 2, 1) := by decide +kernel
theorem d5_waitingWeight_31 : decode b5_waitingWeight 31 = .ok (.iaload, 1) := by decide +kernel
theorem d5_waitingWeight_32 : decode b5_waitingWeight 32 = .ok (.aaload, 1) := by decide +kernel
theorem d5_waitingWeight_33 : decode b5_waitingWeight 33 = .ok (.getfield 152, 3) := by decide +kernel
theorem d5_waitingWeight_36 : decode b5_waitingWeight 36 = .ok (.iadd, 1) := by decide +kernel
theorem d5_waitingWeight_37 : decode b5_waitingWeight 37 = .ok (.istore_n 1, 1) := by decide +kernel
theorem d5_waitingWeight_38 : decode b5_waitingWeight 38 = .ok (.iinc 2 1, 3) := by decide +kernel
theorem d5_waitingWeight_41 : decode b5_waitingWeight 41 = .ok (.goto (-37), 3) := by decide +kernel
theorem d5_waitingWeight_44 : decode b5_waitingWeight 44 = .ok (.iload_n 1, 1) := by decide +kernel
theorem d5_waitingWeight_45 : decode b5_waitingWeight 45 = .ok (.ireturn, 1) := by decide +kernel
abbrev b5_bookingsMade : ByteArray := prog_1_method_47_code
def y5_bookingsMade : MethodName := ⟨"ChannelSchedule", "bookingsMade", "()I"⟩
theorem w5_bookingsMade : YV y5_bookingsMade b5_bookingsMade 1 (some .int) 0 := ⟨LW_i 607 (by decide +kernel) (by decide +kernel), LW_i 608 (by decide +kernel) (by decide +kernel), LW_i 110 (by decide +kernel) (by decide +kernel), LW_i 609 (by decide +kernel) (by decide +kernel), by decide +kernel, by decide +kernel⟩
theorem d5_bookingsMade_0 : decode b5_bookingsMade 0 = .ok (.aload_n 0, 1) := by decide +kernel
theorem d5_bookingsMade_1 : decode b5_bookingsMade 1 = .ok (.getfield 36, 3) := by decide +kernel
theorem d5_bookingsMade_4 : decode b5_bookingsMade 4 = .ok (.getfield 268, 3) := by decide +kernel
theorem d5_bookingsMade_7 : decode b5_bookingsMade 7 = .ok (.ireturn, 1) := by decide +kernel
abbrev b5_bookingsCancelled : ByteArray := prog_1_method_48_code
def y5_bookingsCancelled : MethodName := ⟨"ChannelSchedule", "bookingsCancelled", "()I"⟩
theorem w5_bookingsCancelled : YV y5_bookingsCancelled b5_bookingsCancelled 1 (some .int) 0 := ⟨LW_i 611 (by decide +kernel) (by decide +kernel), LW_i 612 (by decide +kernel) (by decide +kernel), LW_i 110 (by decide +kernel) (by decide +kernel), LW_i 613 (by decide +kernel) (by decide +kernel), by decide +kernel, by decide +kernel⟩
theorem d5_bookingsCancelled_0 : decode b5_bookingsCancelled 0 = .ok (.aload_n 0, 1) := by decide +kernel
theorem d5_bookingsCancelled_1 : decode b5_bookingsCancelled 1 = .ok (.getfield 36, 3) := by decide +kernel
theorem d5_bookingsCancelled_4 : decode b5_bookingsCancelled 4 = .ok (.getfield 271, 3) := by decide +kernel
theorem d5_bookingsCancelled_7 : decode b5_bookingsCancelled 7 = .ok (.ireturn, 1) := by decide +kernel
abbrev b5_requestsServed : ByteArray := prog_1_method_49_code
def y5_requestsServed : MethodName := ⟨"ChannelSchedule", "requestsServed", "()I"⟩
theorem w5_requestsServed : YV y5_requestsServed b5_requestsServed 1 (some .int) 0 := ⟨LW_i 615 (by decide +kernel) (by decide +kernel), LW_i 616 (by decide +kernel) (by decide +kernel), LW_i 110 (by decide +kernel) (by decide +kernel), LW_i 617 (by decide +kernel) (by decide +kernel), by decide +kernel, by decide +kernel⟩
theorem d5_requestsServed_0 : decode b5_requestsServed 0 = .ok (.aload_n 0, 1) := by decide +kernel
theorem d5_requestsServed_1 : decode b5_requestsServed 1 = .ok (.getfield 36, 3) := by decide +kernel
theorem d5_requestsServed_4 : decode b5_requestsServed 4 = .ok (.getfield 274, 3) := by decide +kernel
theorem d5_requestsServed_7 : decode b5_requestsServed 7 = .ok (.ireturn, 1) := by decide +kernel
abbrev b5_utilization : ByteArray := prog_1_method_50_code
def y5_utilization : MethodName := ⟨"ChannelSchedule", "utilization", "()F"⟩
theorem w5_utilization : YV y5_utilization b5_utilization 3 (some .float) 0 := ⟨LW_i 619 (by decide +kernel) (by decide +kernel), LW_i 620 (by decide +kernel) (by decide +kernel), LW_i 110 (by decide +kernel) (by decide +kernel), LW_i 621 (by decide +kernel) (by decide +kernel), by decide +kernel, by decide +kernel⟩
theorem d5_utilization_0 : decode b5_utilization 0 = .ok (.iconst 0, 1) := by decide +kernel
theorem d5_utilization_1 : decode b5_utilization 1 = .ok (.istore_n 1, 1) := by decide +kernel
theorem d5_utilization_2 : decode b5_utilization 2 = .ok (.iconst 0, 1) := by decide +kernel
theorem d5_utilization_3 : decode b5_utilization 3 = .ok (.istore_n 2, 1) := by decide +kernel
theorem d5_utilization_4 : decode b5_utilization 4 = .ok (.iload_n 2, 1) := by decide +kernel
theorem d5_utilization_5 : decode b5_utilization 5 = .ok (.aload_n 0, 1) := by decide +kernel
theorem d5_utilization_6 : decode b5_utilization 6 = .ok (.getfield 36, 3) := by decide +kernel
theorem d5_utilization_9 : decode b5_utilization 9 = .ok (.getfield 175, 3) := by decide +kernel
theorem d5_utilization_12 : decode b5_utilization 12 = .ok (.if_icmp .ge 23, 3) := by decide +kernel
theorem d5_utilization_15 : decode b5_utilization 15 = .ok (.iload_n 1, 1) := by decide +kernel
theorem d5_utilization_16 : decode b5_utilization 16 = .ok (.aload_n 0, 1) := by decide +kernel
theorem d5_utilization_17 : decode b5_utilization 17 = .ok (.getfield 36, 3) := by decide +kernel
theorem d5_utilization_20 : decode b5_utilization 20 = .ok (.getfield 186, 3) := by decide +kernel
theorem d5_utilization_23 : decode b5_utilization 23 = .ok (.iload_n 2, 1) := by decide +kernel
theorem d5_utilization_24 : decode b5_utilization 24 = .ok (.iaload, 1) := by decide +kernel
theorem d5_utilization_25 : decode b5_utilization 25 = .ok (.invokestatic 200, 3) := by decide +kernel
theorem d5_utilization_28 : decode b5_utilization 28 = .ok (.istore_n 1, 1) := by decide +kernel
theorem d5_utilization_29 : decode b5_utilization 29 = .ok (.iinc 2 1, 3) := by decide +kernel
theorem d5_utilization_32 : decode b5_utilization 32 = .ok (.goto (-28), 3) := by decide +kernel
theorem d5_utilization_35 : decode b5_utilization 35 = .ok (.iload_n 1, 1) := by decide +kernel
theorem d5_utilization_36 : decode b5_utilization 36 = .ok (.ifCond .ne 5, 3) := by decide +kernel
theorem d5_utilization_39 : decode b5_utilization 39 = .ok (.fconst 0, 1) := by decide +kernel
theorem d5_utilization_40 : decode b5_utilization 40 = .ok (.freturn, 1) := by decide +kernel
theorem d5_utilization_41 : decode b5_utilization 41 = .ok (.iload_n 1, 1) := by decide +kernel
theorem d5_utilization_42 : decode b5_utilization 42 = .ok (.aload_n 0, 1) := by decide +kernel
theorem d5_utilization_43 : decode b5_utilization 43 = .ok (.iconst 0, 1) := by decide +kernel
theorem d5_utilization_44 : decode b5_utilization 44 = .ok (.iload_n 1, 1) := by decide +kernel
theorem d5_utilization_45 : decode b5_utilization 45 = .ok (.iconst 1, 1) := by decide +kernel
theorem d5_utilization_46 : decode b5_utilization 46 = .ok (.isub, 1) := by decide +kernel
theorem d5_utilization_47 : decode b5_utilization 47 = .ok (.invokevirtual 192, 3) := by decide +kernel
theorem d5_utilization_50 : decode b5_utilization 50 = .ok (.isub, 1) := by decide +kernel
theorem d5_utilization_51 : decode b5_utilization 51 = .ok (.istore_n 2, 1) := by decide +kernel
theorem d5_utilization_52 : decode b5_utilization 52 = .ok (.iload_n 2, 1) := by decide +kernel
theorem d5_utilization_53 : decode b5_utilization 53 = .ok (.i2f, 1) := by decide +kernel
theorem d5_utilization_54 : decode b5_utilization 54 = .ok (.iload_n 1, 1) := by decide +kernel
theorem d5_utilization_55 : decode b5_utilization 55 = .ok (.i2f, 1) := by decide +kernel
theorem d5_utilization_56 : decode b5_utilization 56 = .ok (.fdiv, 1) := by decide +kernel
theorem d5_utilization_57 : decode b5_utilization 57 = .ok (.freturn, 1) := by decide +kernel
abbrev b5_meanTransit : ByteArray := prog_1_method_51_code
def y5_meanTransit : MethodName := ⟨"ChannelSchedule", "meanTransit", "()D"⟩
theorem w5_meanTransit : YV y5_meanTransit b5_meanTransit 3 (some .double) 0 := ⟨LW_i 634 (by decide +kernel) (by decide +kernel), LW_i 635 (by decide +kernel) (by decide +kernel), LW_i 110 (by decide +kernel) (by decide +kernel), LW_i 636 (by decide +kernel) (by decide +kernel), by decide +kernel, by decide +kernel⟩
theorem d5_meanTransit_0 : decode b5_meanTransit 0 = .ok (.aload_n 0, 1) := by decide +kernel
theorem d5_meanTransit_1 : decode b5_meanTransit 1 = .ok (.getfield 36, 3) := by decide +kernel
theorem d5_meanTransit_4 : decode b5_meanTransit 4 = .ok (.getfield 175, 3) := by decide +kernel
theorem d5_meanTransit_7 : decode b5_meanTransit 7 = .ok (.ifCond .ne 5, 3) := by decide +kernel
theorem d5_meanTransit_10 : decode b5_meanTransit 10 = .ok (.dconst 0, 1) := by decide +kernel
theorem d5_meanTransit_11 : decode b5_meanTransit 11 = .ok (.dreturn, 1) := by decide +kernel
theorem d5_meanTransit_12 : decode b5_meanTransit 12 = .ok (.iconst 0, 1) := by decide +kernel
theorem d5_meanTransit_13 : decode b5_meanTransit 13 = .ok (.istore_n 1, 1) := by decide +kernel
theorem d5_meanTransit_14 : decode b5_meanTransit 14 = .ok (.iconst 0, 1) := by decide +kernel
theorem d5_meanTransit_15 : decode b5_meanTransit 15 = .ok (.istore_n 2, 1) := by decide +kernel
theorem d5_meanTransit_16 : decode b5_meanTransit 16 = .ok (.iload_n 2, 1) := by decide +kernel
theorem d5_meanTransit_17 : decode b5_meanTransit 17 = .ok (.aload_n 0, 1) := by decide +kernel
theorem d5_meanTransit_18 : decode b5_meanTransit 18 = .ok (.getfield 36, 3) := by decide +kernel
theorem d5_meanTransit_21 : decode b5_meanTransit 21 = .ok (.getfield 175, 3) := by decide +kernel
theorem d5_meanTransit_24 : decode b5_meanTransit 24 = .ok (.if_icmp .ge 31, 3) := by decide +kernel
theorem d5_meanTransit_27 : decode b5_meanTransit 27 = .ok (.iload_n 1, 1) := by decide +kernel
theorem d5_meanTransit_28 : decode b5_meanTransit 28 = .ok (.aload_n 0, 1) := by decide +kernel
theorem d5_meanTransit_29 : decode b5_meanTransit 29 = .ok (.getfield 36, 3) := by decide +kernel
theorem d5_meanTransit_32 : decode b5_meanTransit 32 = .ok (.getfield 186, 3) := by decide +kernel
theorem d5_meanTransit_35 : decode b5_meanTransit 35 = .ok (.iload_n 2, 1) := by decide +kernel
theorem d5_meanTransit_36 : decode b5_meanTransit 36 = .ok (.iaload, 1) := by decide +kernel
theorem d5_meanTransit_37 : decode b5_meanTransit 37 = .ok (.aload_n 0, 1) := by decide +kernel
theorem d5_meanTransit_38 : decode b5_meanTransit 38 = .ok (.getfield 36, 3) := by decide +kernel
theorem d5_meanTransit_41 : decode b5_meanTransit 41 = .ok (.getfield 183, 3) := by decide +kernel
theorem d5_meanTransit_44 : decode b5_meanTransit 44 = .ok (.iload_n 2, 1) := by decide +kernel
theorem d5_meanTransit_45 : decode b5_meanTransit 45 = .ok (.iaload, 1) := by decide +kernel
theorem d5_meanTransit_46 : decode b5_meanTransit 46 = .ok (.isub, 1) := by decide +kernel
theorem d5_meanTransit_47 : decode b5_meanTransit 47 = .ok (.iadd, 1) := by decide +kernel
theorem d5_meanTransit_48 : decode b5_meanTransit 48 = .ok (.istore_n 1, 1) := by decide +kernel
theorem d5_meanTransit_49 : decode b5_meanTransit 49 = .ok (.iinc 2 1, 3) := by decide +kernel
theorem d5_meanTransit_52 : decode b5_meanTransit 52 = .ok (.goto (-36), 3) := by decide +kernel
theorem d5_meanTransit_55 : decode b5_meanTransit 55 = .ok (.iload_n 1, 1) := by decide +kernel
theorem d5_meanTransit_56 : decode b5_meanTransit 56 = .ok (.i2d, 1) := by decide +kernel
theorem d5_meanTransit_57 : decode b5_meanTransit 57 = .ok (.aload_n 0, 1) := by decide +kernel
theorem d5_meanTransit_58 : decode b5_meanTransit 58 = .ok (.getfield 36, 3) := by decide +kernel
theorem d5_meanTransit_61 : decode b5_meanTransit 61 = .ok (.getfield 175, 3) := by decide +kernel
theorem d5_meanTransit_64 : decode b5_meanTransit 64 = .ok (.i2d, 1) := by decide +kernel
theorem d5_meanTransit_65 : decode b5_meanTransit 65 = .ok (.ddiv, 1) := by decide +kernel
theorem d5_meanTransit_66 : decode b5_meanTransit 66 = .ok (.dreturn, 1) := by decide +kernel
abbrev b5_inconsistencies : ByteArray := prog_1_method_52_code
def y5_inconsistencies : MethodName := ⟨"ChannelSchedule", "inconsistencies", "()I"⟩
theorem w5_inconsistencies : YV y5_inconsistencies b5_inconsistencies 5 (some .int) 0 := ⟨LW_i 638 (by decide +kernel) (by decide +kernel), LW_i 639 (by decide +kernel) (by decide +kernel), LW_i 110 (by decide +kernel) (by decide +kernel), LW_i 640 (by decide +kernel) (by decide +kernel), by decide +kernel, by decide +kernel⟩
theorem d5_inconsistencies_0 : decode b5_inconsistencies 0 = .ok (.aload_n 0, 1) := by decide +kernel
theorem d5_inconsistencies_1 : decode b5_inconsistencies 1 = .ok (.getfield 36, 3) := by decide +kernel
theorem d5_inconsistencies_4 : decode b5_inconsistencies 4 = .ok (.getfield 268, 3) := by decide +kernel
theorem d5_inconsistencies_7 : decode b5_inconsistencies 7 = .ok (.aload_n 0, 1) := by decide +kernel
theorem d5_inconsistencies_8 : decode b5_inconsistencies 8 = .ok (.getfield 36, 3) := by decide +kernel
theorem d5_inconsistencies_11 : decode b5_inconsistencies 11 = .ok (.getfield 271, 3) := by decide +kernel
theorem d5_inconsistencies_14 : decode b5_inconsistencies 14 = .ok (.isub, 1) := by decide +kernel
theorem d5_inconsistencies_15 : decode b5_inconsistencies 15 = .ok (.aload_n 0, 1) := by decide +kernel
theorem d5_inconsistencies_16 : decode b5_inconsistencies 16 = .ok (.getfield 36, 3) := by decide +kernel
theorem d5_inconsistencies_19 : decode b5_inconsistencies 19 = .ok (.getfield 175, 3) := by decide +kernel
theorem d5_inconsistencies_22 : decode b5_inconsistencies 22 = .ok (.isub, 1) := by decide +kernel
theorem d5_inconsistencies_23 : decode b5_inconsistencies 23 = .ok (.istore_n 1, 1) := by decide +kernel
theorem d5_inconsistencies_24 : decode b5_inconsistencies 24 = .ok (.iconst 0, 1) := by decide +kernel
theorem d5_inconsistencies_25 : decode b5_inconsistencies 25 = .ok (.istore_n 2, 1) := by decide +kernel
theorem d5_inconsistencies_26 : decode b5_inconsistencies 26 = .ok (.iload_n 2, 1) := by decide +kernel
theorem d5_inconsistencies_27 : decode b5_inconsistencies 27 = .ok (.aload_n 0, 1) := by decide +kernel
theorem d5_inconsistencies_28 : decode b5_inconsistencies 28 = .ok (.getfield 36, 3) := by decide +kernel
theorem d5_inconsistencies_31 : decode b5_inconsistencies 31 = .ok (.getfield 175, 3) := by decide +kernel
theorem d5_inconsistencies_34 : decode b5_inconsistencies 34 = .ok (.if_icmp .ge 75, 3) := by decide +kernel
theorem d5_inconsistencies_37 : decode b5_inconsistencies 37 = .ok (.aload_n 0, 1) := by decide +kernel
theorem d5_inconsistencies_38 : decode b5_inconsistencies 38 = .ok (.getfield 36, 3) := by decide +kernel
theorem d5_inconsistencies_41 : decode b5_inconsistencies 41 = .ok (.getfield 186, 3) := by decide +kernel
theorem d5_inconsistencies_44 : decode b5_inconsistencies 44 = .ok (.iload_n 2, 1) := by decide +kernel
theorem d5_inconsistencies_45 : decode b5_inconsistencies 45 = .ok (.iaload, 1) := by decide +kernel
theorem d5_inconsistencies_46 : decode b5_inconsistencies 46 = .ok (.aload_n 0, 1) := by decide +kernel
theorem d5_inconsistencies_47 : decode b5_inconsistencies 47 = .ok (.getfield 36, 3) := by decide +kernel
theorem d5_inconsistencies_50 : decode b5_inconsistencies 50 = .ok (.getfield 183, 3) := by decide +kernel
theorem d5_inconsistencies_53 : decode b5_inconsistencies 53 = .ok (.iload_n 2, 1) := by decide +kernel
theorem d5_inconsistencies_54 : decode b5_inconsistencies 54 = .ok (.iaload, 1) := by decide +kernel
theorem d5_inconsistencies_55 : decode b5_inconsistencies 55 = .ok (.isub, 1) := by decide +kernel
theorem d5_inconsistencies_56 : decode b5_inconsistencies 56 = .ok (.istore_n 3, 1) := by decide +kernel
theorem d5_inconsistencies_57 : decode b5_inconsistencies 57 = .ok (.iconst 0, 1) := by decide +kernel
theorem d5_inconsistencies_58 : decode b5_inconsistencies 58 = .ok (.istore 4, 2) := by decide +kernel
theorem d5_inconsistencies_60 : decode b5_inconsistencies 60 = .ok (.iload 4, 2) := by decide +kernel
theorem d5_inconsistencies_62 : decode b5_inconsistencies 62 = .ok (.iload_n 2, 1) := by decide +kernel
theorem d5_inconsistencies_63 : decode b5_inconsistencies 63 = .ok (.if_icmp .ge 40, 3) := by decide +kernel
theorem d5_inconsistencies_66 : decode b5_inconsistencies 66 = .ok (.aload_n 0, 1) := by decide +kernel
theorem d5_inconsistencies_67 : decode b5_inconsistencies 67 = .ok (.iload 4, 2) := by decide +kernel
theorem d5_inconsistencies_69 : decode b5_inconsistencies 69 = .ok (.aload_n 0, 1) := by decide +kernel
theorem d5_inconsistencies_70 : decode b5_inconsistencies 70 = .ok (.getfield 36, 3) := by decide +kernel
theorem d5_inconsistencies_73 : decode b5_inconsistencies 73 = .ok (.getfield 189, 3) := by decide +kernel
theorem d5_inconsistencies_76 : decode b5_inconsistencies 76 = .ok (.iload_n 2, 1) := by decide +kernel
theorem d5_inconsistencies_77 : decode b5_inconsistencies 77 = .ok (.baload, 1) := by decide +kernel
theorem d5_inconsistencies_78 : decode b5_inconsistencies 78 = .ok (.aload_n 0, 1) := by decide +kernel
theorem d5_inconsistencies_79 : decode b5_inconsistencies 79 = .ok (.getfield 36, 3) := by decide +kernel
theorem d5_inconsistencies_82 : decode b5_inconsistencies 82 = .ok (.getfield 183, 3) := by decide +kernel
theorem d5_inconsistencies_85 : decode b5_inconsistencies 85 = .ok (.iload_n 2, 1) := by decide +kernel
theorem d5_inconsistencies_86 : decode b5_inconsistencies 86 = .ok (.iaload, 1) := by decide +kernel
theorem d5_inconsistencies_87 : decode b5_inconsistencies 87 = .ok (.iload_n 3, 1) := by decide +kernel
theorem d5_inconsistencies_88 : decode b5_inconsistencies 88 = .ok (.invokevirtual 205, 3) := by decide +kernel
theorem d5_inconsistencies_91 : decode b5_inconsistencies 91 = .ok (.ifCond .eq 6, 3) := by decide +kernel
theorem d5_inconsistencies_94 : decode b5_inconsistencies 94 = .ok (.iinc 1 1, 3) := by decide +kernel
theorem d5_inconsistencies_97 : decode b5_inconsistencies 97 = .ok (.iinc 4 1, 3) := by decide +kernel
theorem d5_inconsistencies_100 : decode b5_inconsistencies 100 = .ok (.goto (-40), 3) := by decide +kernel
theorem d5_inconsistencies_103 : decode b5_inconsistencies 103 = .ok (.iinc 2 1, 3) := by decide +kernel
theorem d5_inconsistencies_106 : decode b5_inconsistencies 106 = .ok (.goto (-80), 3) := by decide +kernel
theorem d5_inconsistencies_109 : decode b5_inconsistencies 109 = .ok (.iload_n 1, 1) := by decide +kernel
theorem d5_inconsistencies_110 : decode b5_inconsistencies 110 = .ok (.ireturn, 1) := by decide +kernel
abbrev b5_book : ByteArray := prog_1_method_53_code
def y5_book : MethodName := ⟨"ChannelSchedule", "book", "(IZI)I"⟩
theorem w5_book : YV y5_book b5_book 4 (some .int) 3 := ⟨LW_i 1085 (by decide +kernel) (by decide +kernel), LW_i 1086 (by decide +kernel) (by decide +kernel), LW_i 110 (by decide +kernel) (by decide +kernel), LW_i 1087 (by decide +kernel) (by decide +kernel), by decide +kernel, by decide +kernel⟩
theorem d5_book_0 : decode b5_book 0 = .ok (.aload_n 0, 1) := by decide +kernel
theorem d5_book_1 : decode b5_book 1 = .ok (.iload_n 1, 1) := by decide +kernel
theorem d5_book_2 : decode b5_book 2 = .ok (.iload_n 2, 1) := by decide +kernel
theorem d5_book_3 : decode b5_book 3 = .ok (.iload_n 3, 1) := by decide +kernel
theorem d5_book_4 : decode b5_book 4 = .ok (.invokevirtual 277, 3) := by decide +kernel
theorem d5_book_7 : decode b5_book 7 = .ok (.invokestatic 281, 3) := by decide +kernel
theorem d5_book_10 : decode b5_book 10 = .ok (.aload_n 0, 1) := by decide +kernel
theorem d5_book_11 : decode b5_book 11 = .ok (.invokevirtual 284, 3) := by decide +kernel
theorem d5_book_14 : decode b5_book 14 = .ok (.aload_n 0, 1) := by decide +kernel
theorem d5_book_15 : decode b5_book 15 = .ok (.iload_n 1, 1) := by decide +kernel
theorem d5_book_16 : decode b5_book 16 = .ok (.iload_n 2, 1) := by decide +kernel
theorem d5_book_17 : decode b5_book 17 = .ok (.iload_n 3, 1) := by decide +kernel
theorem d5_book_18 : decode b5_book 18 = .ok (.invokevirtual 287, 3) := by decide +kernel
theorem d5_book_21 : decode b5_book 21 = .ok (.ireturn, 1) := by decide +kernel
abbrev b5_request : ByteArray := prog_1_method_54_code
def y5_request : MethodName := ⟨"ChannelSchedule", "request", "(IZII)I"⟩
theorem w5_request : YV y5_request b5_request 5 (some .int) 4 := ⟨LW_i 1103 (by decide +kernel) (by decide +kernel), LW_i 1104 (by decide +kernel) (by decide +kernel), LW_i 110 (by decide +kernel) (by decide +kernel), LW_i 1105 (by decide +kernel) (by decide +kernel), by decide +kernel, by decide +kernel⟩
theorem d5_request_0 : decode b5_request 0 = .ok (.aload_n 0, 1) := by decide +kernel
theorem d5_request_1 : decode b5_request 1 = .ok (.iload_n 1, 1) := by decide +kernel
theorem d5_request_2 : decode b5_request 2 = .ok (.iload_n 2, 1) := by decide +kernel
theorem d5_request_3 : decode b5_request 3 = .ok (.iload_n 3, 1) := by decide +kernel
theorem d5_request_4 : decode b5_request 4 = .ok (.iload 4, 2) := by decide +kernel
theorem d5_request_6 : decode b5_request 6 = .ok (.invokevirtual 290, 3) := by decide +kernel
theorem d5_request_9 : decode b5_request 9 = .ok (.invokestatic 281, 3) := by decide +kernel
theorem d5_request_12 : decode b5_request 12 = .ok (.aload_n 0, 1) := by decide +kernel
theorem d5_request_13 : decode b5_request 13 = .ok (.invokevirtual 284, 3) := by decide +kernel
theorem d5_request_16 : decode b5_request 16 = .ok (.aload_n 0, 1) := by decide +kernel
theorem d5_request_17 : decode b5_request 17 = .ok (.iload_n 1, 1) := by decide +kernel
theorem d5_request_18 : decode b5_request 18 = .ok (.iload_n 2, 1) := by decide +kernel
theorem d5_request_19 : decode b5_request 19 = .ok (.iload_n 3, 1) := by decide +kernel
theorem d5_request_20 : decode b5_request 20 = .ok (.iload 4, 2) := by decide +kernel
theorem d5_request_22 : decode b5_request 22 = .ok (.invokevirtual 294, 3) := by decide +kernel
theorem d5_request_25 : decode b5_request 25 = .ok (.ireturn, 1) := by decide +kernel
abbrev b5_cancel : ByteArray := prog_1_method_55_code
def y5_cancel : MethodName := ⟨"ChannelSchedule", "cancel", "(I)I"⟩
theorem w5_cancel : YV y5_cancel b5_cancel 2 (some .int) 1 := ⟨LW_i 1122 (by decide +kernel) (by decide +kernel), LW_i 1123 (by decide +kernel) (by decide +kernel), LW_i 110 (by decide +kernel) (by decide +kernel), LW_i 1124 (by decide +kernel) (by decide +kernel), by decide +kernel, by decide +kernel⟩
theorem d5_cancel_0 : decode b5_cancel 0 = .ok (.aload_n 0, 1) := by decide +kernel
theorem d5_cancel_1 : decode b5_cancel 1 = .ok (.iload_n 1, 1) := by decide +kernel
theorem d5_cancel_2 : decode b5_cancel 2 = .ok (.invokevirtual 297, 3) := by decide +kernel
theorem d5_cancel_5 : decode b5_cancel 5 = .ok (.invokestatic 281, 3) := by decide +kernel
theorem d5_cancel_8 : decode b5_cancel 8 = .ok (.aload_n 0, 1) := by decide +kernel
theorem d5_cancel_9 : decode b5_cancel 9 = .ok (.invokevirtual 284, 3) := by decide +kernel
theorem d5_cancel_12 : decode b5_cancel 12 = .ok (.aload_n 0, 1) := by decide +kernel
theorem d5_cancel_13 : decode b5_cancel 13 = .ok (.iload_n 1, 1) := by decide +kernel
theorem d5_cancel_14 : decode b5_cancel 14 = .ok (.invokevirtual 265, 3) := by decide +kernel
theorem d5_cancel_17 : decode b5_cancel 17 = .ok (.ireturn, 1) := by decide +kernel
abbrev b5_moveBooking : ByteArray := prog_1_method_56_code
def y5_moveBooking : MethodName := ⟨"ChannelSchedule", "moveBooking", "(II)I"⟩
theorem w5_moveBooking : YV y5_moveBooking b5_moveBooking 3 (some .int) 2 := ⟨LW_i 1133 (by decide +kernel) (by decide +kernel), LW_i 1134 (by decide +kernel) (by decide +kernel), LW_i 110 (by decide +kernel) (by decide +kernel), LW_i 1135 (by decide +kernel) (by decide +kernel), by decide +kernel, by decide +kernel⟩
theorem d5_moveBooking_0 : decode b5_moveBooking 0 = .ok (.aload_n 0, 1) := by decide +kernel
theorem d5_moveBooking_1 : decode b5_moveBooking 1 = .ok (.iload_n 1, 1) := by decide +kernel
theorem d5_moveBooking_2 : decode b5_moveBooking 2 = .ok (.iload_n 2, 1) := by decide +kernel
theorem d5_moveBooking_3 : decode b5_moveBooking 3 = .ok (.invokevirtual 300, 3) := by decide +kernel
theorem d5_moveBooking_6 : decode b5_moveBooking 6 = .ok (.invokestatic 281, 3) := by decide +kernel
theorem d5_moveBooking_9 : decode b5_moveBooking 9 = .ok (.aload_n 0, 1) := by decide +kernel
theorem d5_moveBooking_10 : decode b5_moveBooking 10 = .ok (.invokevirtual 284, 3) := by decide +kernel
theorem d5_moveBooking_13 : decode b5_moveBooking 13 = .ok (.aload_n 0, 1) := by decide +kernel
theorem d5_moveBooking_14 : decode b5_moveBooking 14 = .ok (.iload_n 1, 1) := by decide +kernel
theorem d5_moveBooking_15 : decode b5_moveBooking 15 = .ok (.iload_n 2, 1) := by decide +kernel
theorem d5_moveBooking_16 : decode b5_moveBooking 16 = .ok (.invokevirtual 303, 3) := by decide +kernel
theorem d5_moveBooking_19 : decode b5_moveBooking 19 = .ok (.ireturn, 1) := by decide +kernel
abbrev b5_withdraw : ByteArray := prog_1_method_57_code
def y5_withdraw : MethodName := ⟨"ChannelSchedule", "withdraw", "(I)I"⟩
theorem w5_withdraw : YV y5_withdraw b5_withdraw 3 (some .int) 1 := ⟨LW_i 1148 (by decide +kernel) (by decide +kernel), LW_i 1149 (by decide +kernel) (by decide +kernel), LW_i 110 (by decide +kernel) (by decide +kernel), LW_i 1150 (by decide +kernel) (by decide +kernel), by decide +kernel, by decide +kernel⟩
theorem d5_withdraw_0 : decode b5_withdraw 0 = .ok (.aload_n 0, 1) := by decide +kernel
theorem d5_withdraw_1 : decode b5_withdraw 1 = .ok (.iload_n 1, 1) := by decide +kernel
theorem d5_withdraw_2 : decode b5_withdraw 2 = .ok (.invokevirtual 234, 3) := by decide +kernel
theorem d5_withdraw_5 : decode b5_withdraw 5 = .ok (.invokestatic 136, 3) := by decide +kernel
theorem d5_withdraw_8 : decode b5_withdraw 8 = .ok (.aload_n 0, 1) := by decide +kernel
theorem d5_withdraw_9 : decode b5_withdraw 9 = .ok (.invokevirtual 284, 3) := by decide +kernel
theorem d5_withdraw_12 : decode b5_withdraw 12 = .ok (.aload_n 0, 1) := by decide +kernel
theorem d5_withdraw_13 : decode b5_withdraw 13 = .ok (.getfield 36, 3) := by decide +kernel
theorem d5_withdraw_16 : decode b5_withdraw 16 = .ok (.getfield 237, 3) := by decide +kernel
theorem d5_withdraw_19 : decode b5_withdraw 19 = .ok (.iload_n 1, 1) := by decide +kernel
theorem d5_withdraw_20 : decode b5_withdraw 20 = .ok (.iaload, 1) := by decide +kernel
theorem d5_withdraw_21 : decode b5_withdraw 21 = .ok (.istore_n 2, 1) := by decide +kernel
theorem d5_withdraw_22 : decode b5_withdraw 22 = .ok (.aload_n 0, 1) := by decide +kernel
theorem d5_withdraw_23 : decode b5_withdraw 23 = .ok (.getfield 36, 3) := by decide +kernel
theorem d5_withdraw_26 : decode b5_withdraw 26 = .ok (.iload_n 1, 1) := by decide +kernel
theorem d5_withdraw_27 : decode b5_withdraw 27 = .ok (.invokevirtual 306, 3) := by decide +kernel
theorem d5_withdraw_30 : decode b5_withdraw 30 = .ok (.iload_n 2, 1) := by decide +kernel
theorem d5_withdraw_31 : decode b5_withdraw 31 = .ok (.ireturn, 1) := by decide +kernel
abbrev b5_setThickness : ByteArray := prog_1_method_58_code
def y5_setThickness : MethodName := ⟨"ChannelSchedule", "setThickness", "(I)I"⟩
theorem w5_setThickness : YV y5_setThickness b5_setThickness 2 (some .int) 1 := ⟨LW_i 1155 (by decide +kernel) (by decide +kernel), LW_i 1156 (by decide +kernel) (by decide +kernel), LW_i 110 (by decide +kernel) (by decide +kernel), LW_i 1157 (by decide +kernel) (by decide +kernel), by decide +kernel, by decide +kernel⟩
theorem d5_setThickness_0 : decode b5_setThickness 0 = .ok (.iload_n 1, 1) := by decide +kernel
theorem d5_setThickness_1 : decode b5_setThickness 1 = .ok (.iconst 0, 1) := by decide +kernel
theorem d5_setThickness_2 : decode b5_setThickness 2 = .ok (.bipush 9, 2) := by decide +kernel
theorem d5_setThickness_4 : decode b5_setThickness 4 = .ok (.invokestatic 104, 3) := by decide +kernel
theorem d5_setThickness_7 : decode b5_setThickness 7 = .ok (.invokestatic 108, 3) := by decide +kernel
theorem d5_setThickness_10 : decode b5_setThickness 10 = .ok (.aload_n 0, 1) := by decide +kernel
theorem d5_setThickness_11 : decode b5_setThickness 11 = .ok (.invokevirtual 284, 3) := by decide +kernel
theorem d5_setThickness_14 : decode b5_setThickness 14 = .ok (.aload_n 0, 1) := by decide +kernel
theorem d5_setThickness_15 : decode b5_setThickness 15 = .ok (.iload_n 1, 1) := by decide +kernel
theorem d5_setThickness_16 : decode b5_setThickness 16 = .ok (.invokevirtual 309, 3) := by decide +kernel
theorem d5_setThickness_19 : decode b5_setThickness 19 = .ok (.ireturn, 1) := by decide +kernel
abbrev b5_advance : ByteArray := prog_1_method_59_code
def y5_advance : MethodName := ⟨"ChannelSchedule", "advance", "(I)I"⟩
theorem w5_advance : YV y5_advance b5_advance 2 (some .int) 1 := ⟨LW_i 1166 (by decide +kernel) (by decide +kernel), LW_i 1167 (by decide +kernel) (by decide +kernel), LW_i 110 (by decide +kernel) (by decide +kernel), LW_i 1168 (by decide +kernel) (by decide +kernel), by decide +kernel, by decide +kernel⟩
theorem d5_advance_0 : decode b5_advance 0 = .ok (.aload_n 0, 1) := by decide +kernel
theorem d5_advance_1 : decode b5_advance 1 = .ok (.iload_n 1, 1) := by decide +kernel
theorem d5_advance_2 : decode b5_advance 2 = .ok (.invokevirtual 312, 3) := by decide +kernel
theorem d5_advance_5 : decode b5_advance 5 = .ok (.invokestatic 281, 3) := by decide +kernel
theorem d5_advance_8 : decode b5_advance 8 = .ok (.aload_n 0, 1) := by decide +kernel
theorem d5_advance_9 : decode b5_advance 9 = .ok (.invokevirtual 284, 3) := by decide +kernel
theorem d5_advance_12 : decode b5_advance 12 = .ok (.aload_n 0, 1) := by decide +kernel
theorem d5_advance_13 : decode b5_advance 13 = .ok (.iload_n 1, 1) := by decide +kernel
theorem d5_advance_14 : decode b5_advance 14 = .ok (.invokevirtual 315, 3) := by decide +kernel
theorem d5_advance_17 : decode b5_advance 17 = .ok (.ireturn, 1) := by decide +kernel
abbrev b5_runScript : ByteArray := prog_1_method_60_code
def y5_runScript : MethodName := ⟨"ChannelSchedule", "runScript", "()I"⟩
theorem w5_runScript : YV y5_runScript b5_runScript 3 (some .int) 0 := ⟨LW_i 1181 (by decide +kernel) (by decide +kernel), LW_i 1182 (by decide +kernel) (by decide +kernel), LW_i 110 (by decide +kernel) (by decide +kernel), LW_i 1183 (by decide +kernel) (by decide +kernel), by decide +kernel, by decide +kernel⟩
theorem d5_runScript_0 : decode b5_runScript 0 = .ok (.aload_n 0, 1) := by decide +kernel
theorem d5_runScript_1 : decode b5_runScript 1 = .ok (.invokevirtual 318, 3) := by decide +kernel
theorem d5_runScript_4 : decode b5_runScript 4 = .ok (.istore_n 1, 1) := by decide +kernel
theorem d5_runScript_5 : decode b5_runScript 5 = .ok (.aload_n 0, 1) := by decide +kernel
theorem d5_runScript_6 : decode b5_runScript 6 = .ok (.getfield 10, 3) := by decide +kernel
theorem d5_runScript_9 : decode b5_runScript 9 = .ok (.iconst 0, 1) := by decide +kernel
theorem d5_runScript_10 : decode b5_runScript 10 = .ok (.putfield 95, 3) := by decide +kernel
theorem d5_runScript_13 : decode b5_runScript 13 = .ok (.iload_n 1, 1) := by decide +kernel
theorem d5_runScript_14 : decode b5_runScript 14 = .ok (.invokestatic 108, 3) := by decide +kernel
theorem d5_runScript_17 : decode b5_runScript 17 = .ok (.aload_n 0, 1) := by decide +kernel
theorem d5_runScript_18 : decode b5_runScript 18 = .ok (.invokevirtual 284, 3) := by decide +kernel
theorem d5_runScript_21 : decode b5_runScript 21 = .ok (.iconst 0, 1) := by decide +kernel
theorem d5_runScript_22 : decode b5_runScript 22 = .ok (.istore_n 2, 1) := by decide +kernel
theorem d5_runScript_23 : decode b5_runScript 23 = .ok (.iload_n 2, 1) := by decide +kernel
theorem d5_runScript_24 : decode b5_runScript 24 = .ok (.aload_n 0, 1) := by decide +kernel
theorem d5_runScript_25 : decode b5_runScript 25 = .ok (.getfield 19, 3) := by decide +kernel
theorem d5_runScript_28 : decode b5_runScript 28 = .ok (.getfield 321, 3) := by decide +kernel
theorem d5_runScript_31 : decode b5_runScript 31 = .ok (.if_icmp .ge 22, 3) := by decide +kernel
theorem d5_runScript_34 : decode b5_runScript 34 = .ok (.aload_n 0, 1) := by decide +kernel
theorem d5_runScript_35 : decode b5_runScript 35 = .ok (.iload_n 2, 1) := by decide +kernel
theorem d5_runScript_36 : decode b5_runScript 36 = .ok (.invokevirtual 324, 3) := by decide +kernel
theorem d5_runScript_39 : decode b5_runScript 39 = .ok (.ifCond .ne 14, 3) := by decide +kernel
theorem d5_runScript_42 : decode b5_runScript 42 = .ok (.aload_n 0, 1) := by decide +kernel
theorem d5_runScript_43 : decode b5_runScript 43 = .ok (.iload_n 2, 1) := by decide +kernel
theorem d5_runScript_44 : decode b5_runScript 44 = .ok (.invokevirtual 327, 3) := by decide +kernel
theorem d5_runScript_47 : decode b5_runScript 47 = .ok (.iinc 2 1, 3) := by decide +kernel
theorem d5_runScript_50 : decode b5_runScript 50 = .ok (.goto (-27), 3) := by decide +kernel
theorem d5_runScript_53 : decode b5_runScript 53 = .ok (.iload_n 2, 1) := by decide +kernel
theorem d5_runScript_54 : decode b5_runScript 54 = .ok (.ireturn, 1) := by decide +kernel
abbrev b5_undo : ByteArray := prog_1_method_61_code
def y5_undo : MethodName := ⟨"ChannelSchedule", "undo", "()I"⟩
theorem w5_undo : YV y5_undo b5_undo 1 (some .int) 0 := ⟨LW_i 1221 (by decide +kernel) (by decide +kernel), LW_i 1222 (by decide +kernel) (by decide +kernel), LW_i 110 (by decide +kernel) (by decide +kernel), LW_i 1223 (by decide +kernel) (by decide +kernel), by decide +kernel, by decide +kernel⟩
theorem d5_undo_0 : decode b5_undo 0 = .ok (.aload_n 0, 1) := by decide +kernel
theorem d5_undo_1 : decode b5_undo 1 = .ok (.getfield 51, 3) := by decide +kernel
theorem d5_undo_4 : decode b5_undo 4 = .ok (.ifCond .le 7, 3) := by decide +kernel
theorem d5_undo_7 : decode b5_undo 7 = .ok (.iconst 1, 1) := by decide +kernel
theorem d5_undo_8 : decode b5_undo 8 = .ok (.goto 4, 3) := by decide +kernel
theorem d5_undo_11 : decode b5_undo 11 = .ok (.iconst 0, 1) := by decide +kernel
theorem d5_undo_12 : decode b5_undo 12 = .ok (.invokestatic 97, 3) := by decide +kernel
theorem d5_undo_15 : decode b5_undo 15 = .ok (.aload_n 0, 1) := by decide +kernel
theorem d5_undo_16 : decode b5_undo 16 = .ok (.getfield 36, 3) := by decide +kernel
theorem d5_undo_19 : decode b5_undo 19 = .ok (.aload_n 0, 1) := by decide +kernel
theorem d5_undo_20 : decode b5_undo 20 = .ok (.getfield 43, 3) := by decide +kernel
theorem d5_undo_23 : decode b5_undo 23 = .ok (.aload_n 0, 1) := by decide +kernel
theorem d5_undo_24 : decode b5_undo 24 = .ok (.getfield 47, 3) := by decide +kernel
theorem d5_undo_27 : decode b5_undo 27 = .ok (.aaload, 1) := by decide +kernel
theorem d5_undo_28 : decode b5_undo 28 = .ok (.invokevirtual 261, 3) := by decide +kernel
theorem d5_undo_31 : decode b5_undo 31 = .ok (.aload_n 0, 1) := by decide +kernel
theorem d5_undo_32 : decode b5_undo 32 = .ok (.aload_n 0, 1) := by decide +kernel
theorem d5_undo_33 : decode b5_undo 33 = .ok (.getfield 47, 3) := by decide +kernel
theorem d5_undo_36 : decode b5_undo 36 = .ok (.ifCond .ne 7, 3) := by decide +kernel
theorem d5_undo_39 : decode b5_undo 39 = .ok (.iconst 5, 1) := by decide +kernel
theorem d5_undo_40 : decode b5_undo 40 = .ok (.goto 9, 3) := by decide +kernel
theorem d5_undo_43 : decode b5_undo 43 = .ok (.aload_n 0, 1) := by decide +kernel
theorem d5_undo_44 : decode b5_undo 44 = .ok (.getfield 47, 3) := by decide +kernel
theorem d5_undo_47 : decode b5_undo 47 = .ok (.iconst 1, 1) := by decide +kernel
theorem d5_undo_48 : decode b5_undo 48 = .ok (.isub, 1) := by decide +kernel
theorem d5_undo_49 : decode b5_undo 49 = .ok (.putfield 47, 3) := by decide +kernel
theorem d5_undo_52 : decode b5_undo 52 = .ok (.aload_n 0, 1) := by decide +kernel
theorem d5_undo_53 : decode b5_undo 53 = .ok (.dup, 1) := by decide +kernel
theorem d5_undo_54 : decode b5_undo 54 = .ok (.getfield 51, 3) := by decide +kernel
theorem d5_undo_57 : decode b5_undo 57 = .ok (.iconst 1, 1) := by decide +kernel
theorem d5_undo_58 : decode b5_undo 58 = .ok (.isub, 1) := by decide +kernel
theorem d5_undo_59 : decode b5_undo 59 = .ok (.putfield 51, 3) := by decide +kernel
theorem d5_undo_62 : decode b5_undo 62 = .ok (.aload_n 0, 1) := by decide +kernel
theorem d5_undo_63 : decode b5_undo 63 = .ok (.getfield 51, 3) := by decide +kernel
theorem d5_undo_66 : decode b5_undo 66 = .ok (.ireturn, 1) := by decide +kernel
abbrev b5_save : ByteArray := prog_1_method_62_code
def y5_save : MethodName := ⟨"ChannelSchedule", "save", "(I)I"⟩
theorem w5_save : YV y5_save b5_save 2 (some .int) 1 := ⟨LW_i 1228 (by decide +kernel) (by decide +kernel), LW_i 1229 (by decide +kernel) (by decide +kernel), LW_i 110 (by decide +kernel) (by decide +kernel), LW_i 1230 (by decide +kernel) (by decide +kernel), by decide +kernel, by decide +kernel⟩
theorem d5_save_0 : decode b5_save 0 = .ok (.iload_n 1, 1) := by decide +kernel
theorem d5_save_1 : decode b5_save 1 = .ok (.iconst 2, 1) := by decide +kernel
theorem d5_save_2 : decode b5_save 2 = .ok (.invokestatic 158, 3) := by decide +kernel
theorem d5_save_5 : decode b5_save 5 = .ok (.invokestatic 136, 3) := by decide +kernel
theorem d5_save_8 : decode b5_save 8 = .ok (.aload_n 0, 1) := by decide +kernel
theorem d5_save_9 : decode b5_save 9 = .ok (.getfield 54, 3) := by decide +kernel
theorem d5_save_12 : decode b5_save 12 = .ok (.iload_n 1, 1) := by decide +kernel
theorem d5_save_13 : decode b5_save 13 = .ok (.aaload, 1) := by decide +kernel
theorem d5_save_14 : decode b5_save 14 = .ok (.aload_n 0, 1) := by decide +kernel
theorem d5_save_15 : decode b5_save 15 = .ok (.getfield 36, 3) := by decide +kernel
theorem d5_save_18 : decode b5_save 18 = .ok (.invokevirtual 261, 3) := by decide +kernel
theorem d5_save_21 : decode b5_save 21 = .ok (.aload_n 0, 1) := by decide +kernel
theorem d5_save_22 : decode b5_save 22 = .ok (.getfield 57, 3) := by decide +kernel
theorem d5_save_25 : decode b5_save 25 = .ok (.iload_n 1, 1) := by decide +kernel
theorem d5_save_26 : decode b5_save 26 = .ok (.iconst 1, 1) := by decide +kernel
theorem d5_save_27 : decode b5_save 27 = .ok (.bastore, 1) := by decide +kernel
theorem d5_save_28 : decode b5_save 28 = .ok (.aload_n 0, 1) := by decide +kernel
theorem d5_save_29 : decode b5_save 29 = .ok (.getfield 36, 3) := by decide +kernel
theorem d5_save_32 : decode b5_save 32 = .ok (.getfield 175, 3) := by decide +kernel
theorem d5_save_35 : decode b5_save 35 = .ok (.ireturn, 1) := by decide +kernel
abbrev b5_restore : ByteArray := prog_1_method_63_code
def y5_restore : MethodName := ⟨"ChannelSchedule", "restore", "(I)I"⟩
theorem w5_restore : YV y5_restore b5_restore 2 (some .int) 1 := ⟨LW_i 1235 (by decide +kernel) (by decide +kernel), LW_i 1236 (by decide +kernel) (by decide +kernel), LW_i 110 (by decide +kernel) (by decide +kernel), LW_i 1237 (by decide +kernel) (by decide +kernel), by decide +kernel, by decide +kernel⟩
theorem d5_restore_0 : decode b5_restore 0 = .ok (.iload_n 1, 1) := by decide +kernel
theorem d5_restore_1 : decode b5_restore 1 = .ok (.iconst 2, 1) := by decide +kernel
theorem d5_restore_2 : decode b5_restore 2 = .ok (.invokestatic 158, 3) := by decide +kernel
theorem d5_restore_5 : decode b5_restore 5 = .ok (.invokestatic 136, 3) := by decide +kernel
theorem d5_restore_8 : decode b5_restore 8 = .ok (.aload_n 0, 1) := by decide +kernel
theorem d5_restore_9 : decode b5_restore 9 = .ok (.getfield 57, 3) := by decide +kernel
theorem d5_restore_12 : decode b5_restore 12 = .ok (.iload_n 1, 1) := by decide +kernel
theorem d5_restore_13 : decode b5_restore 13 = .ok (.baload, 1) := by decide +kernel
theorem d5_restore_14 : decode b5_restore 14 = .ok (.invokestatic 97, 3) := by decide +kernel
theorem d5_restore_17 : decode b5_restore 17 = .ok (.aload_n 0, 1) := by decide +kernel
theorem d5_restore_18 : decode b5_restore 18 = .ok (.getfield 36, 3) := by decide +kernel
theorem d5_restore_21 : decode b5_restore 21 = .ok (.aload_n 0, 1) := by decide +kernel
theorem d5_restore_22 : decode b5_restore 22 = .ok (.getfield 54, 3) := by decide +kernel
theorem d5_restore_25 : decode b5_restore 25 = .ok (.iload_n 1, 1) := by decide +kernel
theorem d5_restore_26 : decode b5_restore 26 = .ok (.aaload, 1) := by decide +kernel
theorem d5_restore_27 : decode b5_restore 27 = .ok (.invokevirtual 261, 3) := by decide +kernel
theorem d5_restore_30 : decode b5_restore 30 = .ok (.aload_n 0, 1) := by decide +kernel
theorem d5_restore_31 : decode b5_restore 31 = .ok (.iconst 0, 1) := by decide +kernel
theorem d5_restore_32 : decode b5_restore 32 = .ok (.putfield 51, 3) := by decide +kernel
theorem d5_restore_35 : decode b5_restore 35 = .ok (.aload_n 0, 1) := by decide +kernel
theorem d5_restore_36 : decode b5_restore 36 = .ok (.getfield 36, 3) := by decide +kernel
theorem d5_restore_39 : decode b5_restore 39 = .ok (.getfield 175, 3) := by decide +kernel
theorem d5_restore_42 : decode b5_restore 42 = .ok (.ireturn, 1) := by decide +kernel
abbrev b5_writeSchedule : ByteArray := prog_1_method_64_code
def y5_writeSchedule : MethodName := ⟨"ChannelSchedule", "writeSchedule", "()I"⟩
theorem w5_writeSchedule : YV y5_writeSchedule b5_writeSchedule 4 (some .int) 0 := ⟨LW_i 642 (by decide +kernel) (by decide +kernel), LW_i 643 (by decide +kernel) (by decide +kernel), LW_i 110 (by decide +kernel) (by decide +kernel), LW_i 644 (by decide +kernel) (by decide +kernel), by decide +kernel, by decide +kernel⟩
theorem d5_writeSchedule_0 : decode b5_writeSchedule 0 = .ok (.aload_n 0, 1) := by decide +kernel
theorem d5_writeSchedule_1 : decode b5_writeSchedule 1 = .ok (.iconst 0, 1) := by decide +kernel
theorem d5_writeSchedule_2 : decode b5_writeSchedule 2 = .ok (.putfield 69, 3) := by decide +kernel
theorem d5_writeSchedule_5 : decode b5_writeSchedule 5 = .ok (.iconst 0, 1) := by decide +kernel
theorem d5_writeSchedule_6 : decode b5_writeSchedule 6 = .ok (.istore_n 1, 1) := by decide +kernel
theorem d5_writeSchedule_7 : decode b5_writeSchedule 7 = .ok (.iload_n 1, 1) := by decide +kernel
theorem d5_writeSchedule_8 : decode b5_writeSchedule 8 = .ok (.aload_n 0, 1) := by decide +kernel
theorem d5_writeSchedule_9 : decode b5_writeSchedule 9 = .ok (.getfield 36, 3) := by decide +kernel
theorem d5_writeSchedule_12 : decode b5_writeSchedule 12 = .ok (.getfield 175, 3) := by decide +kernel
theorem d5_writeSchedule_15 : decode b5_writeSchedule 15 = .ok (.if_icmp .ge 118, 3) := by decide +kernel
theorem d5_writeSchedule_18 : decode b5_writeSchedule 18 = .ok (.iload_n 1, 1) := by decide +kernel
theorem d5_writeSchedule_19 : decode b5_writeSchedule 19 = .ok (.ifCond .le 9, 3) := by decide +kernel
theorem d5_writeSchedule_22 : decode b5_writeSchedule 22 = .ok (.aload_n 0, 1) := by decide +kernel
theorem d5_writeSchedule_23 : decode b5_writeSchedule 23 = .ok (.bipush 32, 2) := by decide +kernel
theorem d5_writeSchedule_25 : decode b5_writeSchedule 25 = .ok (.invokevirtual 330, 3) := by decide +kernel
theorem d5_writeSchedule_28 : decode b5_writeSchedule 28 = .ok (.aload_n 0, 1) := by decide +kernel
theorem d5_writeSchedule_29 : decode b5_writeSchedule 29 = .ok (.getfield 26, 3) := by decide +kernel
theorem d5_writeSchedule_32 : decode b5_writeSchedule 32 = .ok (.getfield 143, 3) := by decide +kernel
theorem d5_writeSchedule_35 : decode b5_writeSchedule 35 = .ok (.aload_n 0, 1) := by decide +kernel
theorem d5_writeSchedule_36 : decode b5_writeSchedule 36 = .ok (.getfield 36, 3) := by decide +kernel
theorem d5_writeSchedule_39 : decode b5_writeSchedule 39 = .ok (.getfield 181, 3) := by decide +kernel
theorem d5_writeSchedule_42 : decode b5_writeSchedule 42 = .ok (.iload_n 1, 1) := by decide +kernel
theorem d5_writeSchedule_43 : decode b5_writeSchedule 43 = .ok (.iaload, 1) := by decide +kernel
theorem d5_writeSchedule_44 : decode b5_writeSchedule 44 = .ok (.aaload, 1) := by decide +kernel
theorem d5_writeSchedule_45 : decode b5_writeSchedule 45 = .ok (.astore_n 2, 1) := by decide +kernel
theorem d5_writeSchedule_46 : decode b5_writeSchedule 46 = .ok (.iconst 0, 1) := by decide +kernel
theorem d5_writeSchedule_47 : decode b5_writeSchedule 47 = .ok (.istore_n 3, 1) := by decide +kernel
theorem d5_writeSchedule_48 : decode b5_writeSchedule 48 = .ok (.iload_n 3, 1) := by decide +kernel
theorem d5_writeSchedule_49 : decode b5_writeSchedule 49 = .ok (.aload_n 2, 1) := by decide +kernel
theorem d5_writeSchedule_50 : decode b5_writeSchedule 50 = .ok (.getfield 155, 3) := by decide +kernel
theorem d5_writeSchedule_53 : decode b5_writeSchedule 53 = .ok (.if_icmp .ge 19, 3) := by decide +kernel
theorem d5_writeSchedule_56 : decode b5_writeSchedule 56 = .ok (.aload_n 0, 1) := by decide +kernel
theorem d5_writeSchedule_57 : decode b5_writeSchedule 57 = .ok (.aload_n 2, 1) := by decide +kernel
theorem d5_writeSchedule_58 : decode b5_writeSchedule 58 = .ok (.getfield 162, 3) := by decide +kernel
theorem d5_writeSchedule_61 : decode b5_writeSchedule 61 = .ok (.iload_n 3, 1) := by decide +kernel
theorem d5_writeSchedule_62 : decode b5_writeSchedule 62 = .ok (.baload, 1) := by decide +kernel
theorem d5_writeSchedule_63 : decode b5_writeSchedule 63 = .ok (.invokevirtual 330, 3) := by decide +kernel
theorem d5_writeSchedule_66 : decode b5_writeSchedule 66 = .ok (.iinc 3 1, 3) := by decide +kernel
theorem d5_writeSchedule_69 : decode b5_writeSchedule 69 = .ok (.goto (-21), 3) := by decide +kernel
theorem d5_writeSchedule_72 : decode b5_writeSchedule 72 = .ok (.aload_n 0, 1) := by decide +kernel
theorem d5_writeSchedule_73 : decode b5_writeSchedule 73 = .ok (.aload_n 0, 1) := by decide +kernel
theorem d5_writeSchedule_74 : decode b5_writeSchedule 74 = .ok (.getfield 36, 3) := by decide +kernel
theorem d5_writeSchedule_77 : decode b5_writeSchedule 77 = .ok (.getfield 189, 3) := by decide +kernel
theorem d5_writeSchedule_80 : decode b5_writeSchedule 80 = .ok (.iload_n 1, 1) := by decide +kernel
theorem d5_writeSchedule_81 : decode b5_writeSchedule 81 = .ok (.baload, 1) := by decide +kernel
theorem d5_writeSchedule_82 : decode b5_writeSchedule 82 = .ok (.ifCond .eq 8, 3) := by decide +kernel
theorem d5_writeSchedule_85 : decode b5_writeSchedule 85 = .ok (.bipush 62, 2) := by decide +kernel
theorem d5_writeSchedule_87 : decode b5_writeSchedule 87 = .ok (.goto 5, 3) := by decide +kernel
theorem d5_writeSchedule_90 : decode b5_writeSchedule 90 = .ok (.bipush 60, 2) := by decide +kernel
theorem d5_writeSchedule_92 : decode b5_writeSchedule 92 = .ok (.invokevirtual 330, 3) := by decide +kernel
theorem d5_writeSchedule_95 : decode b5_writeSchedule 95 = .ok (.aload_n 0, 1) := by decide +kernel
theorem d5_writeSchedule_96 : decode b5_writeSchedule 96 = .ok (.aload_n 0, 1) := by decide +kernel
theorem d5_writeSchedule_97 : decode b5_writeSchedule 97 = .ok (.getfield 36, 3) := by decide +kernel
theorem d5_writeSchedule_100 : decode b5_writeSchedule 100 = .ok (.getfield 183, 3) := by decide +kernel
theorem d5_writeSchedule_103 : decode b5_writeSchedule 103 = .ok (.iload_n 1, 1) := by decide +kernel
theorem d5_writeSchedule_104 : decode b5_writeSchedule 104 = .ok (.iaload, 1) := by decide +kernel
theorem d5_writeSchedule_105 : decode b5_writeSchedule 105 = .ok (.invokevirtual 333, 3) := by decide +kernel
theorem d5_writeSchedule_108 : decode b5_writeSchedule 108 = .ok (.aload_n 0, 1) := by decide +kernel
theorem d5_writeSchedule_109 : decode b5_writeSchedule 109 = .ok (.bipush 45, 2) := by decide +kernel
theorem d5_writeSchedule_111 : decode b5_writeSchedule 111 = .ok (.invokevirtual 330, 3) := by decide +kernel
theorem d5_writeSchedule_114 : decode b5_writeSchedule 114 = .ok (.aload_n 0, 1) := by decide +kernel
theorem d5_writeSchedule_115 : decode b5_writeSchedule 115 = .ok (.aload_n 0, 1) := by decide +kernel
theorem d5_writeSchedule_116 : decode b5_writeSchedule 116 = .ok (.getfield 36, 3) := by decide +kernel
theorem d5_writeSchedule_119 : decode b5_writeSchedule 119 = .ok (.getfield 186, 3) := by decide +kernel
theorem d5_writeSchedule_122 : decode b5_writeSchedule 122 = .ok (.iload_n 1, 1) := by decide +kernel
theorem d5_writeSchedule_123 : decode b5_writeSchedule 123 = .ok (.iaload, 1) := by decide +kernel
theorem d5_writeSchedule_124 : decode b5_writeSchedule 124 = .ok (.invokevirtual 333, 3) := by decide +kernel
theorem d5_writeSchedule_127 : decode b5_writeSchedule 127 = .ok (.iinc 1 1, 3) := by decide +kernel
theorem d5_writeSchedule_130 : decode b5_writeSchedule 130 = .ok (.goto (-123), 3) := by decide +kernel
theorem d5_writeSchedule_133 : decode b5_writeSchedule 133 = .ok (.aload_n 0, 1) := by decide +kernel
theorem d5_writeSchedule_134 : decode b5_writeSchedule 134 = .ok (.getfield 69, 3) := by decide +kernel
theorem d5_writeSchedule_137 : decode b5_writeSchedule 137 = .ok (.ireturn, 1) := by decide +kernel
abbrev b5_outputByte : ByteArray := prog_1_method_65_code
def y5_outputByte : MethodName := ⟨"ChannelSchedule", "outputByte", "(I)I"⟩
theorem w5_outputByte : YV y5_outputByte b5_outputByte 2 (some .int) 1 := ⟨LW_i 1242 (by decide +kernel) (by decide +kernel), LW_i 1243 (by decide +kernel) (by decide +kernel), LW_i 110 (by decide +kernel) (by decide +kernel), LW_i 1244 (by decide +kernel) (by decide +kernel), by decide +kernel, by decide +kernel⟩
theorem d5_outputByte_0 : decode b5_outputByte 0 = .ok (.iload_n 1, 1) := by decide +kernel
theorem d5_outputByte_1 : decode b5_outputByte 1 = .ok (.aload_n 0, 1) := by decide +kernel
theorem d5_outputByte_2 : decode b5_outputByte 2 = .ok (.getfield 69, 3) := by decide +kernel
theorem d5_outputByte_5 : decode b5_outputByte 5 = .ok (.invokestatic 158, 3) := by decide +kernel
theorem d5_outputByte_8 : decode b5_outputByte 8 = .ok (.invokestatic 136, 3) := by decide +kernel
theorem d5_outputByte_11 : decode b5_outputByte 11 = .ok (.aload_n 0, 1) := by decide +kernel
theorem d5_outputByte_12 : decode b5_outputByte 12 = .ok (.getfield 65, 3) := by decide +kernel
theorem d5_outputByte_15 : decode b5_outputByte 15 = .ok (.iload_n 1, 1) := by decide +kernel
theorem d5_outputByte_16 : decode b5_outputByte 16 = .ok (.baload, 1) := by decide +kernel
theorem d5_outputByte_17 : decode b5_outputByte 17 = .ok (.ireturn, 1) := by decide +kernel
abbrev b5_requireIndex : ByteArray := prog_1_method_66_code
def y5_requireIndex : MethodName := ⟨"ChannelSchedule", "requireIndex", "(Z)V"⟩
theorem w5_requireIndex : YS y5_requireIndex b5_requireIndex 1 none 1 := ⟨LW_i 785 (by decide +kernel) (by decide +kernel), LW_i 110 (by decide +kernel) (by decide +kernel), LW_i 786 (by decide +kernel) (by decide +kernel), by decide +kernel, by decide +kernel⟩
theorem d5_requireIndex_0 : decode b5_requireIndex 0 = .ok (.iload_n 0, 1) := by decide +kernel
theorem d5_requireIndex_1 : decode b5_requireIndex 1 = .ok (.ifCond .ne 11, 3) := by decide +kernel
theorem d5_requireIndex_4 : decode b5_requireIndex 4 = .ok (.new 336, 3) := by decide +kernel
theorem d5_requireIndex_7 : decode b5_requireIndex 7 = .ok (.dup, 1) := by decide +kernel
theorem d5_requireIndex_8 : decode b5_requireIndex 8 = .ok (.invokespecial 338, 3) := by decide +kernel
theorem d5_requireIndex_11 : decode b5_requireIndex 11 = .ok (.athrow, 1) := by decide +kernel
theorem d5_requireIndex_12 : decode b5_requireIndex 12 = .ok (.return_, 1) := by decide +kernel
abbrev b5_requireArgument : ByteArray := prog_1_method_67_code
def y5_requireArgument : MethodName := ⟨"ChannelSchedule", "requireArgument", "(Z)V"⟩
theorem w5_requireArgument : YS y5_requireArgument b5_requireArgument 1 none 1 := ⟨LW_i 745 (by decide +kernel) (by decide +kernel), LW_i 110 (by decide +kernel) (by decide +kernel), LW_i 746 (by decide +kernel) (by decide +kernel), by decide +kernel, by decide +kernel⟩
theorem d5_requireArgument_0 : decode b5_requireArgument 0 = .ok (.iload_n 0, 1) := by decide +kernel
theorem d5_requireArgument_1 : decode b5_requireArgument 1 = .ok (.ifCond .ne 11, 3) := by decide +kernel
theorem d5_requireArgument_4 : decode b5_requireArgument 4 = .ok (.new 339, 3) := by decide +kernel
theorem d5_requireArgument_7 : decode b5_requireArgument 7 = .ok (.dup, 1) := by decide +kernel
theorem d5_requireArgument_8 : decode b5_requireArgument 8 = .ok (.invokespecial 341, 3) := by decide +kernel
theorem d5_requireArgument_11 : decode b5_requireArgument 11 = .ok (.athrow, 1) := by decide +kernel
theorem d5_requireArgument_12 : decode b5_requireArgument 12 = .ok (.return_, 1) := by decide +kernel
abbrev b5_requireState : ByteArray := prog_1_method_68_code
def y5_requireState : MethodName := ⟨"ChannelSchedule", "requireState", "(Z)V"⟩
theorem w5_requireState : YS y5_requireState b5_requireState 1 none 1 := ⟨LW_i 662 (by decide +kernel) (by decide +kernel), LW_i 110 (by decide +kernel) (by decide +kernel), LW_i 663 (by decide +kernel) (by decide +kernel), by decide +kernel, by decide +kernel⟩
theorem d5_requireState_0 : decode b5_requireState 0 = .ok (.iload_n 0, 1) := by decide +kernel
theorem d5_requireState_1 : decode b5_requireState 1 = .ok (.ifCond .ne 11, 3) := by decide +kernel
theorem d5_requireState_4 : decode b5_requireState 4 = .ok (.new 342, 3) := by decide +kernel
theorem d5_requireState_7 : decode b5_requireState 7 = .ok (.dup, 1) := by decide +kernel
theorem d5_requireState_8 : decode b5_requireState 8 = .ok (.invokespecial 344, 3) := by decide +kernel
theorem d5_requireState_11 : decode b5_requireState 11 = .ok (.athrow, 1) := by decide +kernel
theorem d5_requireState_12 : decode b5_requireState 12 = .ok (.return_, 1) := by decide +kernel
abbrev b5_requireElement : ByteArray := prog_1_method_69_code
def y5_requireElement : MethodName := ⟨"ChannelSchedule", "requireElement", "(Z)V"⟩
theorem w5_requireElement : YS y5_requireElement b5_requireElement 1 none 1 := ⟨LW_i 832 (by decide +kernel) (by decide +kernel), LW_i 110 (by decide +kernel) (by decide +kernel), LW_i 833 (by decide +kernel) (by decide +kernel), by decide +kernel, by decide +kernel⟩
theorem d5_requireElement_0 : decode b5_requireElement 0 = .ok (.iload_n 0, 1) := by decide +kernel
theorem d5_requireElement_1 : decode b5_requireElement 1 = .ok (.ifCond .ne 11, 3) := by decide +kernel
theorem d5_requireElement_4 : decode b5_requireElement 4 = .ok (.new 345, 3) := by decide +kernel
theorem d5_requireElement_7 : decode b5_requireElement 7 = .ok (.dup, 1) := by decide +kernel
theorem d5_requireElement_8 : decode b5_requireElement 8 = .ok (.invokespecial 347, 3) := by decide +kernel
theorem d5_requireElement_11 : decode b5_requireElement 11 = .ok (.athrow, 1) := by decide +kernel
theorem d5_requireElement_12 : decode b5_requireElement 12 = .ok (.return_, 1) := by decide +kernel
abbrev b5_refuse : ByteArray := prog_1_method_70_code
def y5_refuse : MethodName := ⟨"ChannelSchedule", "refuse", "(I)V"⟩
theorem w5_refuse : YS y5_refuse b5_refuse 1 none 1 := ⟨LW_i 1093 (by decide +kernel) (by decide +kernel), LW_i 110 (by decide +kernel) (by decide +kernel), LW_i 1094 (by decide +kernel) (by decide +kernel), by decide +kernel, by decide +kernel⟩
theorem d5_refuse_0 : decode b5_refuse 0 = .ok (.iload_n 0, 1) := by decide +kernel
theorem d5_refuse_1 : decode b5_refuse 1 = .ok (.iconst 1, 1) := by decide +kernel
theorem d5_refuse_2 : decode b5_refuse 2 = .ok (.if_icmp .eq 7, 3) := by decide +kernel
theorem d5_refuse_5 : decode b5_refuse 5 = .ok (.iconst 1, 1) := by decide +kernel
theorem d5_refuse_6 : decode b5_refuse 6 = .ok (.goto 4, 3) := by decide +kernel
theorem d5_refuse_9 : decode b5_refuse 9 = .ok (.iconst 0, 1) := by decide +kernel
theorem d5_refuse_10 : decode b5_refuse 10 = .ok (.invokestatic 136, 3) := by decide +kernel
theorem d5_refuse_13 : decode b5_refuse 13 = .ok (.iload_n 0, 1) := by decide +kernel
theorem d5_refuse_14 : decode b5_refuse 14 = .ok (.iconst 2, 1) := by decide +kernel
theorem d5_refuse_15 : decode b5_refuse 15 = .ok (.if_icmp .eq 7, 3) := by decide +kernel
theorem d5_refuse_18 : decode b5_refuse 18 = .ok (.iconst 1, 1) := by decide +kernel
theorem d5_refuse_19 : decode b5_refuse 19 = .ok (.goto 4, 3) := by decide +kernel
theorem d5_refuse_22 : decode b5_refuse 22 = .ok (.iconst 0, 1) := by decide +kernel
theorem d5_refuse_23 : decode b5_refuse 23 = .ok (.invokestatic 108, 3) := by decide +kernel
theorem d5_refuse_26 : decode b5_refuse 26 = .ok (.iload_n 0, 1) := by decide +kernel
theorem d5_refuse_27 : decode b5_refuse 27 = .ok (.iconst 3, 1) := by decide +kernel
theorem d5_refuse_28 : decode b5_refuse 28 = .ok (.if_icmp .eq 7, 3) := by decide +kernel
theorem d5_refuse_31 : decode b5_refuse 31 = .ok (.iconst 1, 1) := by decide +kernel
theorem d5_refuse_32 : decode b5_refuse 32 = .ok (.goto 4, 3) := by decide +kernel
theorem d5_refuse_35 : decode b5_refuse 35 = .ok (.iconst 0, 1) := by decide +kernel
theorem d5_refuse_36 : decode b5_refuse 36 = .ok (.invokestatic 97, 3) := by decide +kernel
theorem d5_refuse_39 : decode b5_refuse 39 = .ok (.return_, 1) := by decide +kernel
abbrev b5_isWithin : ByteArray := prog_1_method_71_code
def y5_isWithin : MethodName := ⟨"ChannelSchedule", "isWithin", "(III)Z"⟩
theorem w5_isWithin : YS y5_isWithin b5_isWithin 3 (some .boolean) 3 := ⟨LW_i 742 (by decide +kernel) (by decide +kernel), LW_i 110 (by decide +kernel) (by decide +kernel), LW_i 743 (by decide +kernel) (by decide +kernel), by decide +kernel, by decide +kernel⟩
theorem d5_isWithin_0 : decode b5_isWithin 0 = .ok (.iload_n 0, 1) := by decide +kernel
theorem d5_isWithin_1 : decode b5_isWithin 1 = .ok (.iload_n 1, 1) := by decide +kernel
theorem d5_isWithin_2 : decode b5_isWithin 2 = .ok (.if_icmp .lt 12, 3) := by decide +kernel
theorem d5_isWithin_5 : decode b5_isWithin 5 = .ok (.iload_n 0, 1) := by decide +kernel
theorem d5_isWithin_6 : decode b5_isWithin 6 = .ok (.iload_n 2, 1) := by decide +kernel
theorem d5_isWithin_7 : decode b5_isWithin 7 = .ok (.if_icmp .gt 7, 3) := by decide +kernel
theorem d5_isWithin_10 : decode b5_isWithin 10 = .ok (.iconst 1, 1) := by decide +kernel
theorem d5_isWithin_11 : decode b5_isWithin 11 = .ok (.goto 4, 3) := by decide +kernel
theorem d5_isWithin_14 : decode b5_isWithin 14 = .ok (.iconst 0, 1) := by decide +kernel
theorem d5_isWithin_15 : decode b5_isWithin 15 = .ok (.ireturn, 1) := by decide +kernel
abbrev b5_isNumberBelow : ByteArray := prog_1_method_72_code
def y5_isNumberBelow : MethodName := ⟨"ChannelSchedule", "isNumberBelow", "(II)Z"⟩
theorem w5_isNumberBelow : YS y5_isNumberBelow b5_isNumberBelow 2 (some .boolean) 2 := ⟨LW_i 782 (by decide +kernel) (by decide +kernel), LW_i 110 (by decide +kernel) (by decide +kernel), LW_i 783 (by decide +kernel) (by decide +kernel), by decide +kernel, by decide +kernel⟩
theorem d5_isNumberBelow_0 : decode b5_isNumberBelow 0 = .ok (.iload_n 0, 1) := by decide +kernel
theorem d5_isNumberBelow_1 : decode b5_isNumberBelow 1 = .ok (.ifCond .lt 12, 3) := by decide +kernel
theorem d5_isNumberBelow_4 : decode b5_isNumberBelow 4 = .ok (.iload_n 0, 1) := by decide +kernel
theorem d5_isNumberBelow_5 : decode b5_isNumberBelow 5 = .ok (.iload_n 1, 1) := by decide +kernel
theorem d5_isNumberBelow_6 : decode b5_isNumberBelow 6 = .ok (.if_icmp .ge 7, 3) := by decide +kernel
theorem d5_isNumberBelow_9 : decode b5_isNumberBelow 9 = .ok (.iconst 1, 1) := by decide +kernel
theorem d5_isNumberBelow_10 : decode b5_isNumberBelow 10 = .ok (.goto 4, 3) := by decide +kernel
theorem d5_isNumberBelow_13 : decode b5_isNumberBelow 13 = .ok (.iconst 0, 1) := by decide +kernel
theorem d5_isNumberBelow_14 : decode b5_isNumberBelow 14 = .ok (.ireturn, 1) := by decide +kernel
abbrev b5_isShip : ByteArray := prog_1_method_73_code
def y5_isShip : MethodName := ⟨"ChannelSchedule", "isShip", "(I)Z"⟩
theorem w5_isShip : YV y5_isShip b5_isShip 2 (some .boolean) 1 := ⟨LW_i 779 (by decide +kernel) (by decide +kernel), LW_i 21 (by decide +kernel) (by decide +kernel), LW_i 110 (by decide +kernel) (by decide +kernel), LW_i 780 (by decide +kernel) (by decide +kernel), by decide +kernel, by decide +kernel⟩
theorem d5_isShip_0 : decode b5_isShip 0 = .ok (.iload_n 1, 1) := by decide +kernel
theorem d5_isShip_1 : decode b5_isShip 1 = .ok (.aload_n 0, 1) := by decide +kernel
theorem d5_isShip_2 : decode b5_isShip 2 = .ok (.getfield 26, 3) := by decide +kernel
theorem d5_isShip_5 : decode b5_isShip 5 = .ok (.getfield 111, 3) := by decide +kernel
theorem d5_isShip_8 : decode b5_isShip 8 = .ok (.invokestatic 158, 3) := by decide +kernel
theorem d5_isShip_11 : decode b5_isShip 11 = .ok (.ireturn, 1) := by decide +kernel
abbrev b5_isBooking : ByteArray := prog_1_method_74_code
def y5_isBooking : MethodName := ⟨"ChannelSchedule", "isBooking", "(I)Z"⟩
theorem w5_isBooking : YV y5_isBooking b5_isBooking 2 (some .boolean) 1 := ⟨LW_i 858 (by decide +kernel) (by decide +kernel), LW_i 22 (by decide +kernel) (by decide +kernel), LW_i 110 (by decide +kernel) (by decide +kernel), LW_i 859 (by decide +kernel) (by decide +kernel), by decide +kernel, by decide +kernel⟩
theorem d5_isBooking_0 : decode b5_isBooking 0 = .ok (.iload_n 1, 1) := by decide +kernel
theorem d5_isBooking_1 : decode b5_isBooking 1 = .ok (.aload_n 0, 1) := by decide +kernel
theorem d5_isBooking_2 : decode b5_isBooking 2 = .ok (.getfield 36, 3) := by decide +kernel
theorem d5_isBooking_5 : decode b5_isBooking 5 = .ok (.getfield 175, 3) := by decide +kernel
theorem d5_isBooking_8 : decode b5_isBooking 8 = .ok (.invokestatic 158, 3) := by decide +kernel
theorem d5_isBooking_11 : decode b5_isBooking 11 = .ok (.ireturn, 1) := by decide +kernel
abbrev b5_isRequest : ByteArray := prog_1_method_75_code
def y5_isRequest : MethodName := ⟨"ChannelSchedule", "isRequest", "(I)Z"⟩
theorem w5_isRequest : YV y5_isRequest b5_isRequest 2 (some .boolean) 1 := ⟨LW_i 986 (by decide +kernel) (by decide +kernel), LW_i 26 (by decide +kernel) (by decide +kernel), LW_i 110 (by decide +kernel) (by decide +kernel), LW_i 987 (by decide +kernel) (by decide +kernel), by decide +kernel, by decide +kernel⟩
theorem d5_isRequest_0 : decode b5_isRequest 0 = .ok (.iload_n 1, 1) := by decide +kernel
theorem d5_isRequest_1 : decode b5_isRequest 1 = .ok (.aload_n 0, 1) := by decide +kernel
theorem d5_isRequest_2 : decode b5_isRequest 2 = .ok (.getfield 36, 3) := by decide +kernel
theorem d5_isRequest_5 : decode b5_isRequest 5 = .ok (.getfield 231, 3) := by decide +kernel
theorem d5_isRequest_8 : decode b5_isRequest 8 = .ok (.invokestatic 158, 3) := by decide +kernel
theorem d5_isRequest_11 : decode b5_isRequest 11 = .ok (.ireturn, 1) := by decide +kernel
abbrev b5_transitOf : ByteArray := prog_1_method_76_code
def y5_transitOf : MethodName := ⟨"ChannelSchedule", "transitOf", "(I)I"⟩
theorem w5_transitOf : YV y5_transitOf b5_transitOf 4 (some .int) 1 := ⟨LW_i 568 (by decide +kernel) (by decide +kernel), LW_i 7 (by decide +kernel) (by decide +kernel), LW_i 110 (by decide +kernel) (by decide +kernel), LW_i 569 (by decide +kernel) (by decide +kernel), by decide +kernel, by decide +kernel⟩
theorem d5_transitOf_0 : decode b5_transitOf 0 = .ok (.aload_n 0, 1) := by decide +kernel
theorem d5_transitOf_1 : decode b5_transitOf 1 = .ok (.getfield 26, 3) := by decide +kernel
theorem d5_transitOf_4 : decode b5_transitOf 4 = .ok (.getfield 143, 3) := by decide +kernel
theorem d5_transitOf_7 : decode b5_transitOf 7 = .ok (.iload_n 1, 1) := by decide +kernel
theorem d5_transitOf_8 : decode b5_transitOf 8 = .ok (.aaload, 1) := by decide +kernel
theorem d5_transitOf_9 : decode b5_transitOf 9 = .ok (.astore_n 2, 1) := by decide +kernel
theorem d5_transitOf_10 : decode b5_transitOf 10 = .ok (.aload_n 0, 1) := by decide +kernel
theorem d5_transitOf_11 : decode b5_transitOf 11 = .ok (.getfield 36, 3) := by decide +kernel
theorem d5_transitOf_14 : decode b5_transitOf 14 = .ok (.getfield 126, 3) := by decide +kernel
theorem d5_transitOf_17 : decode b5_transitOf 17 = .ok (.aload_n 2, 1) := by decide +kernel
theorem d5_transitOf_18 : decode b5_transitOf 18 = .ok (.getfield 147, 3) := by decide +kernel
theorem d5_transitOf_21 : decode b5_transitOf 21 = .ok (.isub, 1) := by decide +kernel
theorem d5_transitOf_22 : decode b5_transitOf 22 = .ok (.istore_n 3, 1) := by decide +kernel
theorem d5_transitOf_23 : decode b5_transitOf 23 = .ok (.iload_n 3, 1) := by decide +kernel
theorem d5_transitOf_24 : decode b5_transitOf 24 = .ok (.ifCond .le 14, 3) := by decide +kernel
theorem d5_transitOf_27 : decode b5_transitOf 27 = .ok (.aload_n 2, 1) := by decide +kernel
theorem d5_transitOf_28 : decode b5_transitOf 28 = .ok (.getfield 348, 3) := by decide +kernel
theorem d5_transitOf_31 : decode b5_transitOf 31 = .ok (.iconst 2, 1) := by decide +kernel
theorem d5_transitOf_32 : decode b5_transitOf 32 = .ok (.iload_n 3, 1) := by decide +kernel
theorem d5_transitOf_33 : decode b5_transitOf 33 = .ok (.imul, 1) := by decide +kernel
theorem d5_transitOf_34 : decode b5_transitOf 34 = .ok (.iadd, 1) := by decide +kernel
theorem d5_transitOf_35 : decode b5_transitOf 35 = .ok (.goto 7, 3) := by decide +kernel
theorem d5_transitOf_38 : decode b5_transitOf 38 = .ok (.aload_n 2, 1) := by decide +kernel
theorem d5_transitOf_39 : decode b5_transitOf 39 = .ok (.getfield 348, 3) := by decide +kernel
theorem d5_transitOf_42 : decode b5_transitOf 42 = .ok (.ireturn, 1) := by decide +kernel
abbrev b5_freeAfter : ByteArray := prog_1_method_77_code
def y5_freeAfter : MethodName := ⟨"ChannelSchedule", "freeAfter", "(IIZI)I"⟩
theorem w5_freeAfter : YV y5_freeAfter b5_freeAfter 7 (some .int) 4 := ⟨LW_i 584 (by decide +kernel) (by decide +kernel), LW_i 11 (by decide +kernel) (by decide +kernel), LW_i 110 (by decide +kernel) (by decide +kernel), LW_i 585 (by decide +kernel) (by decide +kernel), by decide +kernel, by decide +kernel⟩
theorem d5_freeAfter_0 : decode b5_freeAfter 0 = .ok (.iload_n 3, 1) := by decide +kernel
theorem d5_freeAfter_1 : decode b5_freeAfter 1 = .ok (.ifCond .ne 13, 3) := by decide +kernel
theorem d5_freeAfter_4 : decode b5_freeAfter 4 = .ok (.iload_n 2, 1) := by decide +kernel
theorem d5_freeAfter_5 : decode b5_freeAfter 5 = .ok (.aload_n 0, 1) := by decide +kernel
theorem d5_freeAfter_6 : decode b5_freeAfter 6 = .ok (.getfield 26, 3) := by decide +kernel
theorem d5_freeAfter_9 : decode b5_freeAfter 9 = .ok (.getfield 123, 3) := by decide +kernel
theorem d5_freeAfter_12 : decode b5_freeAfter 12 = .ok (.iadd, 1) := by decide +kernel
theorem d5_freeAfter_13 : decode b5_freeAfter 13 = .ok (.ireturn, 1) := by decide +kernel
theorem d5_freeAfter_14 : decode b5_freeAfter 14 = .ok (.aload_n 0, 1) := by decide +kernel
theorem d5_freeAfter_15 : decode b5_freeAfter 15 = .ok (.getfield 26, 3) := by decide +kernel
theorem d5_freeAfter_18 : decode b5_freeAfter 18 = .ok (.getfield 120, 3) := by decide +kernel
theorem d5_freeAfter_21 : decode b5_freeAfter 21 = .ok (.ifCond .le 15, 3) := by decide +kernel
theorem d5_freeAfter_24 : decode b5_freeAfter 24 = .ok (.iload_n 1, 1) := by decide +kernel
theorem d5_freeAfter_25 : decode b5_freeAfter 25 = .ok (.aload_n 0, 1) := by decide +kernel
theorem d5_freeAfter_26 : decode b5_freeAfter 26 = .ok (.getfield 26, 3) := by decide +kernel
theorem d5_freeAfter_29 : decode b5_freeAfter 29 = .ok (.getfield 120, 3) := by decide +kernel
theorem d5_freeAfter_32 : decode b5_freeAfter 32 = .ok (.iadd, 1) := by decide +kernel
theorem d5_freeAfter_33 : decode b5_freeAfter 33 = .ok (.goto 6, 3) := by decide +kernel
theorem d5_freeAfter_36 : decode b5_freeAfter 36 = .ok (.iload_n 1, 1) := by decide +kernel
theorem d5_freeAfter_37 : decode b5_freeAfter 37 = .ok (.iconst 1, 1) := by decide +kernel
theorem d5_freeAfter_38 : decode b5_freeAfter 38 = .ok (.iadd, 1) := by decide +kernel
theorem d5_freeAfter_39 : decode b5_freeAfter 39 = .ok (.istore 5, 2) := by decide +kernel
theorem d5_freeAfter_41 : decode b5_freeAfter 41 = .ok (.iload_n 2, 1) := by decide +kernel
theorem d5_freeAfter_42 : decode b5_freeAfter 42 = .ok (.aload_n 0, 1) := by decide +kernel
theorem d5_freeAfter_43 : decode b5_freeAfter 43 = .ok (.getfield 26, 3) := by decide +kernel
theorem d5_freeAfter_46 : decode b5_freeAfter 46 = .ok (.getfield 120, 3) := by decide +kernel
theorem d5_freeAfter_49 : decode b5_freeAfter 49 = .ok (.iadd, 1) := by decide +kernel
theorem d5_freeAfter_50 : decode b5_freeAfter 50 = .ok (.iload 4, 2) := by decide +kernel
theorem d5_freeAfter_52 : decode b5_freeAfter 52 = .ok (.isub, 1) := by decide +kernel
theorem d5_freeAfter_53 : decode b5_freeAfter 53 = .ok (.istore 6, 2) := by decide +kernel
theorem d5_freeAfter_55 : decode b5_freeAfter 55 = .ok (.iload 5, 2) := by decide +kernel
theorem d5_freeAfter_57 : decode b5_freeAfter 57 = .ok (.iload 6, 2) := by decide +kernel
theorem d5_freeAfter_59 : decode b5_freeAfter 59 = .ok (.if_icmp .le 8, 3) := by decide +kernel
theorem d5_freeAfter_62 : decode b5_freeAfter 62 = .ok (.iload 5, 2) := by decide +kernel
theorem d5_freeAfter_64 : decode b5_freeAfter 64 = .ok (.goto 5, 3) := by decide +kernel
theorem d5_freeAfter_67 : decode b5_freeAfter 67 = .ok (.iload 6, 2) := by decide +kernel
theorem d5_freeAfter_69 : decode b5_freeAfter 69 = .ok (.ireturn, 1) := by decide +kernel
abbrev b5_freeBefore : ByteArray := prog_1_method_78_code
def y5_freeBefore : MethodName := ⟨"ChannelSchedule", "freeBefore", "(IIZI)I"⟩
theorem w5_freeBefore : YV y5_freeBefore b5_freeBefore 7 (some .int) 4 := ⟨LW_i 580 (by decide +kernel) (by decide +kernel), LW_i 10 (by decide +kernel) (by decide +kernel), LW_i 110 (by decide +kernel) (by decide +kernel), LW_i 581 (by decide +kernel) (by decide +kernel), by decide +kernel, by decide +kernel⟩
theorem d5_freeBefore_0 : decode b5_freeBefore 0 = .ok (.iload_n 3, 1) := by decide +kernel
theorem d5_freeBefore_1 : decode b5_freeBefore 1 = .ok (.ifCond .ne 16, 3) := by decide +kernel
theorem d5_freeBefore_4 : decode b5_freeBefore 4 = .ok (.iload_n 1, 1) := by decide +kernel
theorem d5_freeBefore_5 : decode b5_freeBefore 5 = .ok (.aload_n 0, 1) := by decide +kernel
theorem d5_freeBefore_6 : decode b5_freeBefore 6 = .ok (.getfield 26, 3) := by decide +kernel
theorem d5_freeBefore_9 : decode b5_freeBefore 9 = .ok (.getfield 123, 3) := by decide +kernel
theorem d5_freeBefore_12 : decode b5_freeBefore 12 = .ok (.isub, 1) := by decide +kernel
theorem d5_freeBefore_13 : decode b5_freeBefore 13 = .ok (.iload 4, 2) := by decide +kernel
theorem d5_freeBefore_15 : decode b5_freeBefore 15 = .ok (.isub, 1) := by decide +kernel
theorem d5_freeBefore_16 : decode b5_freeBefore 16 = .ok (.ireturn, 1) := by decide +kernel
theorem d5_freeBefore_17 : decode b5_freeBefore 17 = .ok (.aload_n 0, 1) := by decide +kernel
theorem d5_freeBefore_18 : decode b5_freeBefore 18 = .ok (.getfield 26, 3) := by decide +kernel
theorem d5_freeBefore_21 : decode b5_freeBefore 21 = .ok (.getfield 120, 3) := by decide +kernel
theorem d5_freeBefore_24 : decode b5_freeBefore 24 = .ok (.ifCond .le 15, 3) := by decide +kernel
theorem d5_freeBefore_27 : decode b5_freeBefore 27 = .ok (.iload_n 1, 1) := by decide +kernel
theorem d5_freeBefore_28 : decode b5_freeBefore 28 = .ok (.aload_n 0, 1) := by decide +kernel
theorem d5_freeBefore_29 : decode b5_freeBefore 29 = .ok (.getfield 26, 3) := by decide +kernel
theorem d5_freeBefore_32 : decode b5_freeBefore 32 = .ok (.getfield 120, 3) := by decide +kernel
theorem d5_freeBefore_35 : decode b5_freeBefore 35 = .ok (.isub, 1) := by decide +kernel
theorem d5_freeBefore_36 : decode b5_freeBefore 36 = .ok (.goto 6, 3) := by decide +kernel
theorem d5_freeBefore_39 : decode b5_freeBefore 39 = .ok (.iload_n 1, 1) := by decide +kernel
theorem d5_freeBefore_40 : decode b5_freeBefore 40 = .ok (.iconst 1, 1) := by decide +kernel
theorem d5_freeBefore_41 : decode b5_freeBefore 41 = .ok (.isub, 1) := by decide +kernel
theorem d5_freeBefore_42 : decode b5_freeBefore 42 = .ok (.istore 5, 2) := by decide +kernel
theorem d5_freeBefore_44 : decode b5_freeBefore 44 = .ok (.iload_n 2, 1) := by decide +kernel
theorem d5_freeBefore_45 : decode b5_freeBefore 45 = .ok (.aload_n 0, 1) := by decide +kernel
theorem d5_freeBefore_46 : decode b5_freeBefore 46 = .ok (.getfield 26, 3) := by decide +kernel
theorem d5_freeBefore_49 : decode b5_freeBefore 49 = .ok (.getfield 120, 3) := by decide +kernel
theorem d5_freeBefore_52 : decode b5_freeBefore 52 = .ok (.isub, 1) := by decide +kernel
theorem d5_freeBefore_53 : decode b5_freeBefore 53 = .ok (.iload 4, 2) := by decide +kernel
theorem d5_freeBefore_55 : decode b5_freeBefore 55 = .ok (.isub, 1) := by decide +kernel
theorem d5_freeBefore_56 : decode b5_freeBefore 56 = .ok (.istore 6, 2) := by decide +kernel
theorem d5_freeBefore_58 : decode b5_freeBefore 58 = .ok (.iload 5, 2) := by decide +kernel
theorem d5_freeBefore_60 : decode b5_freeBefore 60 = .ok (.iload 6, 2) := by decide +kernel
theorem d5_freeBefore_62 : decode b5_freeBefore 62 = .ok (.if_icmp .ge 8, 3) := by decide +kernel
theorem d5_freeBefore_65 : decode b5_freeBefore 65 = .ok (.iload 5, 2) := by decide +kernel
theorem d5_freeBefore_67 : decode b5_freeBefore 67 = .ok (.goto 5, 3) := by decide +kernel
theorem d5_freeBefore_70 : decode b5_freeBefore 70 = .ok (.iload 6, 2) := by decide +kernel
theorem d5_freeBefore_72 : decode b5_freeBefore 72 = .ok (.ireturn, 1) := by decide +kernel
abbrev b5_clashes : ByteArray := prog_1_method_79_code
def y5_clashes : MethodName := ⟨"ChannelSchedule", "clashes", "(IZII)Z"⟩
theorem w5_clashes : YV y5_clashes b5_clashes 6 (some .boolean) 4 := ⟨LW_i 576 (by decide +kernel) (by decide +kernel), LW_i 9 (by decide +kernel) (by decide +kernel), LW_i 110 (by decide +kernel) (by decide +kernel), LW_i 577 (by decide +kernel) (by decide +kernel), by decide +kernel, by decide +kernel⟩
theorem d5_clashes_0 : decode b5_clashes 0 = .ok (.aload_n 0, 1) := by decide +kernel
theorem d5_clashes_1 : decode b5_clashes 1 = .ok (.getfield 36, 3) := by decide +kernel
theorem d5_clashes_4 : decode b5_clashes 4 = .ok (.getfield 189, 3) := by decide +kernel
theorem d5_clashes_7 : decode b5_clashes 7 = .ok (.iload_n 1, 1) := by decide +kernel
theorem d5_clashes_8 : decode b5_clashes 8 = .ok (.baload, 1) := by decide +kernel
theorem d5_clashes_9 : decode b5_clashes 9 = .ok (.iload_n 2, 1) := by decide +kernel
theorem d5_clashes_10 : decode b5_clashes 10 = .ok (.if_icmp .ne 7, 3) := by decide +kernel
theorem d5_clashes_13 : decode b5_clashes 13 = .ok (.iconst 1, 1) := by decide +kernel
theorem d5_clashes_14 : decode b5_clashes 14 = .ok (.goto 4, 3) := by decide +kernel
theorem d5_clashes_17 : decode b5_clashes 17 = .ok (.iconst 0, 1) := by decide +kernel
theorem d5_clashes_18 : decode b5_clashes 18 = .ok (.istore 5, 2) := by decide +kernel
theorem d5_clashes_20 : decode b5_clashes 20 = .ok (.iload_n 3, 1) := by decide +kernel
theorem d5_clashes_21 : decode b5_clashes 21 = .ok (.aload_n 0, 1) := by decide +kernel
theorem d5_clashes_22 : decode b5_clashes 22 = .ok (.aload_n 0, 1) := by decide +kernel
theorem d5_clashes_23 : decode b5_clashes 23 = .ok (.getfield 36, 3) := by decide +kernel
theorem d5_clashes_26 : decode b5_clashes 26 = .ok (.getfield 183, 3) := by decide +kernel
theorem d5_clashes_29 : decode b5_clashes 29 = .ok (.iload_n 1, 1) := by decide +kernel
theorem d5_clashes_30 : decode b5_clashes 30 = .ok (.iaload, 1) := by decide +kernel
theorem d5_clashes_31 : decode b5_clashes 31 = .ok (.aload_n 0, 1) := by decide +kernel
theorem d5_clashes_32 : decode b5_clashes 32 = .ok (.getfield 36, 3) := by decide +kernel
theorem d5_clashes_35 : decode b5_clashes 35 = .ok (.getfield 186, 3) := by decide +kernel
theorem d5_clashes_38 : decode b5_clashes 38 = .ok (.iload_n 1, 1) := by decide +kernel
theorem d5_clashes_39 : decode b5_clashes 39 = .ok (.iaload, 1) := by decide +kernel
theorem d5_clashes_40 : decode b5_clashes 40 = .ok (.iload 5, 2) := by decide +kernel
theorem d5_clashes_42 : decode b5_clashes 42 = .ok (.iload 4, 2) := by decide +kernel
theorem d5_clashes_44 : decode b5_clashes 44 = .ok (.invokevirtual 224, 3) := by decide +kernel
theorem d5_clashes_47 : decode b5_clashes 47 = .ok (.if_icmp .le 37, 3) := by decide +kernel
theorem d5_clashes_50 : decode b5_clashes 50 = .ok (.iload_n 3, 1) := by decide +kernel
theorem d5_clashes_51 : decode b5_clashes 51 = .ok (.aload_n 0, 1) := by decide +kernel
theorem d5_clashes_52 : decode b5_clashes 52 = .ok (.aload_n 0, 1) := by decide +kernel
theorem d5_clashes_53 : decode b5_clashes 53 = .ok (.getfield 36, 3) := by decide +kernel
theorem d5_clashes_56 : decode b5_clashes 56 = .ok (.getfield 183, 3) := by decide +kernel
theorem d5_clashes_59 : decode b5_clashes 59 = .ok (.iload_n 1, 1) := by decide +kernel
theorem d5_clashes_60 : decode b5_clashes 60 = .ok (.iaload, 1) := by decide +kernel
theorem d5_clashes_61 : decode b5_clashes 61 = .ok (.aload_n 0, 1) := by decide +kernel
theorem d5_clashes_62 : decode b5_clashes 62 = .ok (.getfield 36, 3) := by decide +kernel
theorem d5_clashes_65 : decode b5_clashes 65 = .ok (.getfield 186, 3) := by decide +kernel
theorem d5_clashes_68 : decode b5_clashes 68 = .ok (.iload_n 1, 1) := by decide +kernel
theorem d5_clashes_69 : decode b5_clashes 69 = .ok (.iaload, 1) := by decide +kernel
theorem d5_clashes_70 : decode b5_clashes 70 = .ok (.iload 5, 2) := by decide +kernel
theorem d5_clashes_72 : decode b5_clashes 72 = .ok (.iload 4, 2) := by decide +kernel
theorem d5_clashes_74 : decode b5_clashes 74 = .ok (.invokevirtual 351, 3) := by decide +kernel
theorem d5_clashes_77 : decode b5_clashes 77 = .ok (.if_icmp .ge 7, 3) := by decide +kernel
theorem d5_clashes_80 : decode b5_clashes 80 = .ok (.iconst 1, 1) := by decide +kernel
theorem d5_clashes_81 : decode b5_clashes 81 = .ok (.goto 4, 3) := by decide +kernel
theorem d5_clashes_84 : decode b5_clashes 84 = .ok (.iconst 0, 1) := by decide +kernel
theorem d5_clashes_85 : decode b5_clashes 85 = .ok (.ireturn, 1) := by decide +kernel
abbrev b5_firstClash : ByteArray := prog_1_method_80_code
def y5_firstClash : MethodName := ⟨"ChannelSchedule", "firstClash", "(ZIII)I"⟩
theorem w5_firstClash : YV y5_firstClash b5_firstClash 6 (some .int) 4 := ⟨LW_i 572 (by decide +kernel) (by decide +kernel), LW_i 8 (by decide +kernel) (by decide +kernel), LW_i 110 (by decide +kernel) (by decide +kernel), LW_i 573 (by decide +kernel) (by decide +kernel), by decide +kernel, by decide +kernel⟩
theorem d5_firstClash_0 : decode b5_firstClash 0 = .ok (.iconst 0, 1) := by decide +kernel
theorem d5_firstClash_1 : decode b5_firstClash 1 = .ok (.istore 5, 2) := by decide +kernel
theorem d5_firstClash_3 : decode b5_firstClash 3 = .ok (.iload 5, 2) := by decide +kernel
theorem d5_firstClash_5 : decode b5_firstClash 5 = .ok (.aload_n 0, 1) := by decide +kernel
theorem d5_firstClash_6 : decode b5_firstClash 6 = .ok (.getfield 36, 3) := by decide +kernel
theorem d5_firstClash_9 : decode b5_firstClash 9 = .ok (.getfield 175, 3) := by decide +kernel
theorem d5_firstClash_12 : decode b5_firstClash 12 = .ok (.if_icmp .ge 31, 3) := by decide +kernel
theorem d5_firstClash_15 : decode b5_firstClash 15 = .ok (.iload 5, 2) := by decide +kernel
theorem d5_firstClash_17 : decode b5_firstClash 17 = .ok (.iload 4, 2) := by decide +kernel
theorem d5_firstClash_19 : decode b5_firstClash 19 = .ok (.if_icmp .eq 18, 3) := by decide +kernel
theorem d5_firstClash_22 : decode b5_firstClash 22 = .ok (.aload_n 0, 1) := by decide +kernel
theorem d5_firstClash_23 : decode b5_firstClash 23 = .ok (.iload 5, 2) := by decide +kernel
theorem d5_firstClash_25 : decode b5_firstClash 25 = .ok (.iload_n 1, 1) := by decide +kernel
theorem d5_firstClash_26 : decode b5_firstClash 26 = .ok (.iload_n 2, 1) := by decide +kernel
theorem d5_firstClash_27 : decode b5_firstClash 27 = .ok (.iload_n 3, 1) := by decide +kernel
theorem d5_firstClash_28 : decode b5_firstClash 28 = .ok (.invokevirtual 205, 3) := by decide +kernel
theorem d5_firstClash_31 : decode b5_firstClash 31 = .ok (.ifCond .eq 6, 3) := by decide +kernel
theorem d5_firstClash_34 : decode b5_firstClash 34 = .ok (.iload 5, 2) := by decide +kernel
theorem d5_firstClash_36 : decode b5_firstClash 36 = .ok (.ireturn, 1) := by decide +kernel
theorem d5_firstClash_37 : decode b5_firstClash 37 = .ok (.iinc 5 1, 3) := by decide +kernel
theorem d5_firstClash_40 : decode b5_firstClash 40 = .ok (.goto (-37), 3) := by decide +kernel
theorem d5_firstClash_43 : decode b5_firstClash 43 = .ok (.iconst (-1), 1) := by decide +kernel
theorem d5_firstClash_44 : decode b5_firstClash 44 = .ok (.ireturn, 1) := by decide +kernel
abbrev b5_leastFreeStart : ByteArray := prog_1_method_81_code
def y5_leastFreeStart : MethodName := ⟨"ChannelSchedule", "leastFreeStart", "(ZIIII)I"⟩
theorem w5_leastFreeStart : YV y5_leastFreeStart b5_leastFreeStart 12 (some .int) 5 := ⟨LW_i 939 (by decide +kernel) (by decide +kernel), LW_i 23 (by decide +kernel) (by decide +kernel), LW_i 110 (by decide +kernel) (by decide +kernel), LW_i 940 (by decide +kernel) (by decide +kernel), by decide +kernel, by decide +kernel⟩
theorem d5_leastFreeStart_0 : decode b5_leastFreeStart 0 = .ok (.iload_n 2, 1) := by decide +kernel
theorem d5_leastFreeStart_1 : decode b5_leastFreeStart 1 = .ok (.istore 6, 2) := by decide +kernel
theorem d5_leastFreeStart_3 : decode b5_leastFreeStart 3 = .ok (.iconst 0, 1) := by decide +kernel
theorem d5_leastFreeStart_4 : decode b5_leastFreeStart 4 = .ok (.istore 7, 2) := by decide +kernel
theorem d5_leastFreeStart_6 : decode b5_leastFreeStart 6 = .ok (.iload 7, 2) := by decide +kernel
theorem d5_leastFreeStart_8 : decode b5_leastFreeStart 8 = .ok (.aload_n 0, 1) := by decide +kernel
theorem d5_leastFreeStart_9 : decode b5_leastFreeStart 9 = .ok (.getfield 36, 3) := by decide +kernel
theorem d5_leastFreeStart_12 : decode b5_leastFreeStart 12 = .ok (.getfield 175, 3) := by decide +kernel
theorem d5_leastFreeStart_15 : decode b5_leastFreeStart 15 = .ok (.if_icmp .gt 152, 3) := by decide +kernel
theorem d5_leastFreeStart_18 : decode b5_leastFreeStart 18 = .ok (.iload 6, 2) := by decide +kernel
theorem d5_leastFreeStart_20 : decode b5_leastFreeStart 20 = .ok (.iload_n 3, 1) := by decide +kernel
theorem d5_leastFreeStart_21 : decode b5_leastFreeStart 21 = .ok (.if_icmp .gt 146, 3) := by decide +kernel
theorem d5_leastFreeStart_24 : decode b5_leastFreeStart 24 = .ok (.iload 6, 2) := by decide +kernel
theorem d5_leastFreeStart_26 : decode b5_leastFreeStart 26 = .ok (.istore 8, 2) := by decide +kernel
theorem d5_leastFreeStart_28 : decode b5_leastFreeStart 28 = .ok (.iconst 0, 1) := by decide +kernel
theorem d5_leastFreeStart_29 : decode b5_leastFreeStart 29 = .ok (.istore 9, 2) := by decide +kernel
theorem d5_leastFreeStart_31 : decode b5_leastFreeStart 31 = .ok (.iload 9, 2) := by decide +kernel
theorem d5_leastFreeStart_33 : decode b5_leastFreeStart 33 = .ok (.aload_n 0, 1) := by decide +kernel
theorem d5_leastFreeStart_34 : decode b5_leastFreeStart 34 = .ok (.getfield 36, 3) := by decide +kernel
theorem d5_leastFreeStart_37 : decode b5_leastFreeStart 37 = .ok (.getfield 175, 3) := by decide +kernel
theorem d5_leastFreeStart_40 : decode b5_leastFreeStart 40 = .ok (.if_icmp .ge 111, 3) := by decide +kernel
theorem d5_leastFreeStart_43 : decode b5_leastFreeStart 43 = .ok (.aload_n 0, 1) := by decide +kernel
theorem d5_leastFreeStart_44 : decode b5_leastFreeStart 44 = .ok (.getfield 36, 3) := by decide +kernel
theorem d5_leastFreeStart_47 : decode b5_leastFreeStart 47 = .ok (.getfield 189, 3) := by decide +kernel
theorem d5_leastFreeStart_50 : decode b5_leastFreeStart 50 = .ok (.iload 9, 2) := by decide +kernel
theorem d5_leastFreeStart_52 : decode b5_leastFreeStart 52 = .ok (.baload, 1) := by decide +kernel
theorem d5_leastFreeStart_53 : decode b5_leastFreeStart 53 = .ok (.iload_n 1, 1) := by decide +kernel
theorem d5_leastFreeStart_54 : decode b5_leastFreeStart 54 = .ok (.if_icmp .ne 7, 3) := by decide +kernel
theorem d5_leastFreeStart_57 : decode b5_leastFreeStart 57 = .ok (.iconst 1, 1) := by decide +kernel
theorem d5_leastFreeStart_58 : decode b5_leastFreeStart 58 = .ok (.goto 4, 3) := by decide +kernel
theorem d5_leastFreeStart_61 : decode b5_leastFreeStart 61 = .ok (.iconst 0, 1) := by decide +kernel
theorem d5_leastFreeStart_62 : decode b5_leastFreeStart 62 = .ok (.istore 10, 2) := by decide +kernel
theorem d5_leastFreeStart_64 : decode b5_leastFreeStart 64 = .ok (.aload_n 0, 1) := by decide +kernel
theorem d5_leastFreeStart_65 : decode b5_leastFreeStart 65 = .ok (.aload_n 0, 1) := by decide +kernel
theorem d5_leastFreeStart_66 : decode b5_leastFreeStart 66 = .ok (.getfield 36, 3) := by decide +kernel
theorem d5_leastFreeStart_69 : decode b5_leastFreeStart 69 = .ok (.getfield 183, 3) := by decide +kernel
theorem d5_leastFreeStart_72 : decode b5_leastFreeStart 72 = .ok (.iload 9, 2) := by decide +kernel
theorem d5_leastFreeStart_74 : decode b5_leastFreeStart 74 = .ok (.iaload, 1) := by decide +kernel
theorem d5_leastFreeStart_75 : decode b5_leastFreeStart 75 = .ok (.aload_n 0, 1) := by decide +kernel
theorem d5_leastFreeStart_76 : decode b5_leastFreeStart 76 = .ok (.getfield 36, 3) := by decide +kernel
theorem d5_leastFreeStart_79 : decode b5_leastFreeStart 79 = .ok (.getfield 186, 3) := by decide +kernel
theorem d5_leastFreeStart_82 : decode b5_leastFreeStart 82 = .ok (.iload 9, 2) := by decide +kernel
theorem d5_leastFreeStart_84 : decode b5_leastFreeStart 84 = .ok (.iaload, 1) := by decide +kernel
theorem d5_leastFreeStart_85 : decode b5_leastFreeStart 85 = .ok (.iload 10, 2) := by decide +kernel
theorem d5_leastFreeStart_87 : decode b5_leastFreeStart 87 = .ok (.iload 4, 2) := by decide +kernel
theorem d5_leastFreeStart_89 : decode b5_leastFreeStart 89 = .ok (.invokevirtual 351, 3) := by decide +kernel
theorem d5_leastFreeStart_92 : decode b5_leastFreeStart 92 = .ok (.istore 11, 2) := by decide +kernel
theorem d5_leastFreeStart_94 : decode b5_leastFreeStart 94 = .ok (.iload 9, 2) := by decide +kernel
theorem d5_leastFreeStart_96 : decode b5_leastFreeStart 96 = .ok (.iload 5, 2) := by decide +kernel
theorem d5_leastFreeStart_98 : decode b5_leastFreeStart 98 = .ok (.if_icmp .eq 47, 3) := by decide +kernel
theorem d5_leastFreeStart_101 : decode b5_leastFreeStart 101 = .ok (.iload 6, 2) := by decide +kernel
theorem d5_leastFreeStart_103 : decode b5_leastFreeStart 103 = .ok (.iload 11, 2) := by decide +kernel
theorem d5_leastFreeStart_105 : decode b5_leastFreeStart 105 = .ok (.if_icmp .ge 40, 3) := by decide +kernel
theorem d5_leastFreeStart_108 : decode b5_leastFreeStart 108 = .ok (.iload 6, 2) := by decide +kernel
theorem d5_leastFreeStart_110 : decode b5_leastFreeStart 110 = .ok (.aload_n 0, 1) := by decide +kernel
theorem d5_leastFreeStart_111 : decode b5_leastFreeStart 111 = .ok (.aload_n 0, 1) := by decide +kernel
theorem d5_leastFreeStart_112 : decode b5_leastFreeStart 112 = .ok (.getfield 36, 3) := by decide +kernel
theorem d5_leastFreeStart_115 : decode b5_leastFreeStart 115 = .ok (.getfield 183, 3) := by decide +kernel
theorem d5_leastFreeStart_118 : decode b5_leastFreeStart 118 = .ok (.iload 9, 2) := by decide +kernel
theorem d5_leastFreeStart_120 : decode b5_leastFreeStart 120 = .ok (.iaload, 1) := by decide +kernel
theorem d5_leastFreeStart_121 : decode b5_leastFreeStart 121 = .ok (.aload_n 0, 1) := by decide +kernel
theorem d5_leastFreeStart_122 : decode b5_leastFreeStart 122 = .ok (.getfield 36, 3) := by decide +kernel
theorem d5_leastFreeStart_125 : decode b5_leastFreeStart 125 = .ok (.getfield 186, 3) := by decide +kernel
theorem d5_leastFreeStart_128 : decode b5_leastFreeStart 128 = .ok (.iload 9, 2) := by decide +kernel
theorem d5_leastFreeStart_130 : decode b5_leastFreeStart 130 = .ok (.iaload, 1) := by decide +kernel
theorem d5_leastFreeStart_131 : decode b5_leastFreeStart 131 = .ok (.iload 10, 2) := by decide +kernel
theorem d5_leastFreeStart_133 : decode b5_leastFreeStart 133 = .ok (.iload 4, 2) := by decide +kernel
theorem d5_leastFreeStart_135 : decode b5_leastFreeStart 135 = .ok (.invokevirtual 224, 3) := by decide +kernel
theorem d5_leastFreeStart_138 : decode b5_leastFreeStart 138 = .ok (.if_icmp .le 7, 3) := by decide +kernel
theorem d5_leastFreeStart_141 : decode b5_leastFreeStart 141 = .ok (.iload 11, 2) := by decide +kernel
theorem d5_leastFreeStart_143 : decode b5_leastFreeStart 143 = .ok (.istore 6, 2) := by decide +kernel
theorem d5_leastFreeStart_145 : decode b5_leastFreeStart 145 = .ok (.iinc 9 1, 3) := by decide +kernel
theorem d5_leastFreeStart_148 : decode b5_leastFreeStart 148 = .ok (.goto (-117), 3) := by decide +kernel
theorem d5_leastFreeStart_151 : decode b5_leastFreeStart 151 = .ok (.iload 6, 2) := by decide +kernel
theorem d5_leastFreeStart_153 : decode b5_leastFreeStart 153 = .ok (.iload 8, 2) := by decide +kernel
theorem d5_leastFreeStart_155 : decode b5_leastFreeStart 155 = .ok (.if_icmp .ne 6, 3) := by decide +kernel
theorem d5_leastFreeStart_158 : decode b5_leastFreeStart 158 = .ok (.iload 6, 2) := by decide +kernel
theorem d5_leastFreeStart_160 : decode b5_leastFreeStart 160 = .ok (.ireturn, 1) := by decide +kernel
theorem d5_leastFreeStart_161 : decode b5_leastFreeStart 161 = .ok (.iinc 7 1, 3) := by decide +kernel
theorem d5_leastFreeStart_164 : decode b5_leastFreeStart 164 = .ok (.goto (-158), 3) := by decide +kernel
theorem d5_leastFreeStart_167 : decode b5_leastFreeStart 167 = .ok (.iconst (-1), 1) := by decide +kernel
theorem d5_leastFreeStart_168 : decode b5_leastFreeStart 168 = .ok (.ireturn, 1) := by decide +kernel
abbrev b5_greatestFreeStart : ByteArray := prog_1_method_82_code
def y5_greatestFreeStart : MethodName := ⟨"ChannelSchedule", "greatestFreeStart", "(ZII)I"⟩
theorem w5_greatestFreeStart : YV y5_greatestFreeStart b5_greatestFreeStart 8 (some .int) 3 := ⟨LW_i 950 (by decide +kernel) (by decide +kernel), LW_i 24 (by decide +kernel) (by decide +kernel), LW_i 110 (by decide +kernel) (by decide +kernel), LW_i 951 (by decide +kernel) (by decide +kernel), by decide +kernel, by decide +kernel⟩
theorem d5_greatestFreeStart_0 : decode b5_greatestFreeStart 0 = .ok (.iload_n 2, 1) := by decide +kernel
theorem d5_greatestFreeStart_1 : decode b5_greatestFreeStart 1 = .ok (.istore 4, 2) := by decide +kernel
theorem d5_greatestFreeStart_3 : decode b5_greatestFreeStart 3 = .ok (.iconst 0, 1) := by decide +kernel
theorem d5_greatestFreeStart_4 : decode b5_greatestFreeStart 4 = .ok (.istore 5, 2) := by decide +kernel
theorem d5_greatestFreeStart_6 : decode b5_greatestFreeStart 6 = .ok (.iload 5, 2) := by decide +kernel
theorem d5_greatestFreeStart_8 : decode b5_greatestFreeStart 8 = .ok (.aload_n 0, 1) := by decide +kernel
theorem d5_greatestFreeStart_9 : decode b5_greatestFreeStart 9 = .ok (.getfield 36, 3) := by decide +kernel
theorem d5_greatestFreeStart_12 : decode b5_greatestFreeStart 12 = .ok (.getfield 175, 3) := by decide +kernel
theorem d5_greatestFreeStart_15 : decode b5_greatestFreeStart 15 = .ok (.if_icmp .gt 84, 3) := by decide +kernel
theorem d5_greatestFreeStart_18 : decode b5_greatestFreeStart 18 = .ok (.iload 4, 2) := by decide +kernel
theorem d5_greatestFreeStart_20 : decode b5_greatestFreeStart 20 = .ok (.ifCond .lt 79, 3) := by decide +kernel
theorem d5_greatestFreeStart_23 : decode b5_greatestFreeStart 23 = .ok (.aload_n 0, 1) := by decide +kernel
theorem d5_greatestFreeStart_24 : decode b5_greatestFreeStart 24 = .ok (.iload_n 1, 1) := by decide +kernel
theorem d5_greatestFreeStart_25 : decode b5_greatestFreeStart 25 = .ok (.iload 4, 2) := by decide +kernel
theorem d5_greatestFreeStart_27 : decode b5_greatestFreeStart 27 = .ok (.iload_n 3, 1) := by decide +kernel
theorem d5_greatestFreeStart_28 : decode b5_greatestFreeStart 28 = .ok (.iconst (-1), 1) := by decide +kernel
theorem d5_greatestFreeStart_29 : decode b5_greatestFreeStart 29 = .ok (.invokevirtual 209, 3) := by decide +kernel
theorem d5_greatestFreeStart_32 : decode b5_greatestFreeStart 32 = .ok (.istore 6, 2) := by decide +kernel
theorem d5_greatestFreeStart_34 : decode b5_greatestFreeStart 34 = .ok (.iload 6, 2) := by decide +kernel
theorem d5_greatestFreeStart_36 : decode b5_greatestFreeStart 36 = .ok (.iconst (-1), 1) := by decide +kernel
theorem d5_greatestFreeStart_37 : decode b5_greatestFreeStart 37 = .ok (.if_icmp .ne 6, 3) := by decide +kernel
theorem d5_greatestFreeStart_40 : decode b5_greatestFreeStart 40 = .ok (.iload 4, 2) := by decide +kernel
theorem d5_greatestFreeStart_42 : decode b5_greatestFreeStart 42 = .ok (.ireturn, 1) := by decide +kernel
theorem d5_greatestFreeStart_43 : decode b5_greatestFreeStart 43 = .ok (.aload_n 0, 1) := by decide +kernel
theorem d5_greatestFreeStart_44 : decode b5_greatestFreeStart 44 = .ok (.getfield 36, 3) := by decide +kernel
theorem d5_greatestFreeStart_47 : decode b5_greatestFreeStart 47 = .ok (.getfield 189, 3) := by decide +kernel
theorem d5_greatestFreeStart_50 : decode b5_greatestFreeStart 50 = .ok (.iload 6, 2) := by decide +kernel
theorem d5_greatestFreeStart_52 : decode b5_greatestFreeStart 52 = .ok (.baload, 1) := by decide +kernel
theorem d5_greatestFreeStart_53 : decode b5_greatestFreeStart 53 = .ok (.iload_n 1, 1) := by decide +kernel
theorem d5_greatestFreeStart_54 : decode b5_greatestFreeStart 54 = .ok (.if_icmp .ne 7, 3) := by decide +kernel
theorem d5_greatestFreeStart_57 : decode b5_greatestFreeStart 57 = .ok (.iconst 1, 1) := by decide +kernel
theorem d5_greatestFreeStart_58 : decode b5_greatestFreeStart 58 = .ok (.goto 4, 3) := by decide +kernel
theorem d5_greatestFreeStart_61 : decode b5_greatestFreeStart 61 = .ok (.iconst 0, 1) := by decide +kernel
theorem d5_greatestFreeStart_62 : decode b5_greatestFreeStart 62 = .ok (.istore 7, 2) := by decide +kernel
theorem d5_greatestFreeStart_64 : decode b5_greatestFreeStart 64 = .ok (.aload_n 0, 1) := by decide +kernel
theorem d5_greatestFreeStart_65 : decode b5_greatestFreeStart 65 = .ok (.aload_n 0, 1) := by decide +kernel
theorem d5_greatestFreeStart_66 : decode b5_greatestFreeStart 66 = .ok (.getfield 36, 3) := by decide +kernel
theorem d5_greatestFreeStart_69 : decode b5_greatestFreeStart 69 = .ok (.getfield 183, 3) := by decide +kernel
theorem d5_greatestFreeStart_72 : decode b5_greatestFreeStart 72 = .ok (.iload 6, 2) := by decide +kernel
theorem d5_greatestFreeStart_74 : decode b5_greatestFreeStart 74 = .ok (.iaload, 1) := by decide +kernel
theorem d5_greatestFreeStart_75 : decode b5_greatestFreeStart 75 = .ok (.aload_n 0, 1) := by decide +kernel
theorem d5_greatestFreeStart_76 : decode b5_greatestFreeStart 76 = .ok (.getfield 36, 3) := by decide +kernel
theorem d5_greatestFreeStart_79 : decode b5_greatestFreeStart 79 = .ok (.getfield 186, 3) := by decide +kernel
theorem d5_greatestFreeStart_82 : decode b5_greatestFreeStart 82 = .ok (.iload 6, 2) := by decide +kernel
theorem d5_greatestFreeStart_84 : decode b5_greatestFreeStart 84 = .ok (.iaload, 1) := by decide +kernel
theorem d5_greatestFreeStart_85 : decode b5_greatestFreeStart 85 = .ok (.iload 7, 2) := by decide +kernel
theorem d5_greatestFreeStart_87 : decode b5_greatestFreeStart 87 = .ok (.iload_n 3, 1) := by decide +kernel
theorem d5_greatestFreeStart_88 : decode b5_greatestFreeStart 88 = .ok (.invokevirtual 224, 3) := by decide +kernel
theorem d5_greatestFreeStart_91 : decode b5_greatestFreeStart 91 = .ok (.istore 4, 2) := by decide +kernel
theorem d5_greatestFreeStart_93 : decode b5_greatestFreeStart 93 = .ok (.iinc 5 1, 3) := by decide +kernel
theorem d5_greatestFreeStart_96 : decode b5_greatestFreeStart 96 = .ok (.goto (-90), 3) := by decide +kernel
theorem d5_greatestFreeStart_99 : decode b5_greatestFreeStart 99 = .ok (.iconst (-1), 1) := by decide +kernel
theorem d5_greatestFreeStart_100 : decode b5_greatestFreeStart 100 = .ok (.ireturn, 1) := by decide +kernel
abbrev b5_hindranceToMove : ByteArray := prog_1_method_83_code
def y5_hindranceToMove : MethodName := ⟨"ChannelSchedule", "hindranceToMove", "(II)I"⟩
theorem w5_hindranceToMove : YV y5_hindranceToMove b5_hindranceToMove 4 (some .int) 2 := ⟨LW_i 975 (by decide +kernel) (by decide +kernel), LW_i 25 (by decide +kernel) (by decide +kernel), LW_i 110 (by decide +kernel) (by decide +kernel), LW_i 976 (by decide +kernel) (by decide +kernel), by decide +kernel, by decide +kernel⟩
theorem d5_hindranceToMove_0 : decode b5_hindranceToMove 0 = .ok (.aload_n 0, 1) := by decide +kernel
theorem d5_hindranceToMove_1 : decode b5_hindranceToMove 1 = .ok (.getfield 36, 3) := by decide +kernel
theorem d5_hindranceToMove_4 : decode b5_hindranceToMove 4 = .ok (.getfield 183, 3) := by decide +kernel
theorem d5_hindranceToMove_7 : decode b5_hindranceToMove 7 = .ok (.iload_n 1, 1) := by decide +kernel
theorem d5_hindranceToMove_8 : decode b5_hindranceToMove 8 = .ok (.iaload, 1) := by decide +kernel
theorem d5_hindranceToMove_9 : decode b5_hindranceToMove 9 = .ok (.aload_n 0, 1) := by decide +kernel
theorem d5_hindranceToMove_10 : decode b5_hindranceToMove 10 = .ok (.getfield 36, 3) := by decide +kernel
theorem d5_hindranceToMove_13 : decode b5_hindranceToMove 13 = .ok (.getfield 129, 3) := by decide +kernel
theorem d5_hindranceToMove_16 : decode b5_hindranceToMove 16 = .ok (.if_icmp .gt 5, 3) := by decide +kernel
theorem d5_hindranceToMove_19 : decode b5_hindranceToMove 19 = .ok (.iconst 1, 1) := by decide +kernel
theorem d5_hindranceToMove_20 : decode b5_hindranceToMove 20 = .ok (.ireturn, 1) := by decide +kernel
theorem d5_hindranceToMove_21 : decode b5_hindranceToMove 21 = .ok (.iload_n 2, 1) := by decide +kernel
theorem d5_hindranceToMove_22 : decode b5_hindranceToMove 22 = .ok (.aload_n 0, 1) := by decide +kernel
theorem d5_hindranceToMove_23 : decode b5_hindranceToMove 23 = .ok (.getfield 36, 3) := by decide +kernel
theorem d5_hindranceToMove_26 : decode b5_hindranceToMove 26 = .ok (.getfield 129, 3) := by decide +kernel
theorem d5_hindranceToMove_29 : decode b5_hindranceToMove 29 = .ok (.if_icmp .ge 5, 3) := by decide +kernel
theorem d5_hindranceToMove_32 : decode b5_hindranceToMove 32 = .ok (.iconst 2, 1) := by decide +kernel
theorem d5_hindranceToMove_33 : decode b5_hindranceToMove 33 = .ok (.ireturn, 1) := by decide +kernel
theorem d5_hindranceToMove_34 : decode b5_hindranceToMove 34 = .ok (.aload_n 0, 1) := by decide +kernel
theorem d5_hindranceToMove_35 : decode b5_hindranceToMove 35 = .ok (.getfield 36, 3) := by decide +kernel
theorem d5_hindranceToMove_38 : decode b5_hindranceToMove 38 = .ok (.getfield 186, 3) := by decide +kernel
theorem d5_hindranceToMove_41 : decode b5_hindranceToMove 41 = .ok (.iload_n 1, 1) := by decide +kernel
theorem d5_hindranceToMove_42 : decode b5_hindranceToMove 42 = .ok (.iaload, 1) := by decide +kernel
theorem d5_hindranceToMove_43 : decode b5_hindranceToMove 43 = .ok (.aload_n 0, 1) := by decide +kernel
theorem d5_hindranceToMove_44 : decode b5_hindranceToMove 44 = .ok (.getfield 36, 3) := by decide +kernel
theorem d5_hindranceToMove_47 : decode b5_hindranceToMove 47 = .ok (.getfield 183, 3) := by decide +kernel
theorem d5_hindranceToMove_50 : decode b5_hindranceToMove 50 = .ok (.iload_n 1, 1) := by decide +kernel
theorem d5_hindranceToMove_51 : decode b5_hindranceToMove 51 = .ok (.iaload, 1) := by decide +kernel
theorem d5_hindranceToMove_52 : decode b5_hindranceToMove 52 = .ok (.isub, 1) := by decide +kernel
theorem d5_hindranceToMove_53 : decode b5_hindranceToMove 53 = .ok (.istore_n 3, 1) := by decide +kernel
theorem d5_hindranceToMove_54 : decode b5_hindranceToMove 54 = .ok (.aload_n 0, 1) := by decide +kernel
theorem d5_hindranceToMove_55 : decode b5_hindranceToMove 55 = .ok (.aload_n 0, 1) := by decide +kernel
theorem d5_hindranceToMove_56 : decode b5_hindranceToMove 56 = .ok (.getfield 36, 3) := by decide +kernel
theorem d5_hindranceToMove_59 : decode b5_hindranceToMove 59 = .ok (.getfield 189, 3) := by decide +kernel
theorem d5_hindranceToMove_62 : decode b5_hindranceToMove 62 = .ok (.iload_n 1, 1) := by decide +kernel
theorem d5_hindranceToMove_63 : decode b5_hindranceToMove 63 = .ok (.baload, 1) := by decide +kernel
theorem d5_hindranceToMove_64 : decode b5_hindranceToMove 64 = .ok (.iload_n 2, 1) := by decide +kernel
theorem d5_hindranceToMove_65 : decode b5_hindranceToMove 65 = .ok (.iload_n 3, 1) := by decide +kernel
theorem d5_hindranceToMove_66 : decode b5_hindranceToMove 66 = .ok (.iload_n 1, 1) := by decide +kernel
theorem d5_hindranceToMove_67 : decode b5_hindranceToMove 67 = .ok (.invokevirtual 209, 3) := by decide +kernel
theorem d5_hindranceToMove_70 : decode b5_hindranceToMove 70 = .ok (.iconst (-1), 1) := by decide +kernel
theorem d5_hindranceToMove_71 : decode b5_hindranceToMove 71 = .ok (.if_icmp .ne 7, 3) := by decide +kernel
theorem d5_hindranceToMove_74 : decode b5_hindranceToMove 74 = .ok (.iconst 0, 1) := by decide +kernel
theorem d5_hindranceToMove_75 : decode b5_hindranceToMove 75 = .ok (.goto 4, 3) := by decide +kernel
theorem d5_hindranceToMove_78 : decode b5_hindranceToMove 78 = .ok (.iconst 3, 1) := by decide +kernel
theorem d5_hindranceToMove_79 : decode b5_hindranceToMove 79 = .ok (.ireturn, 1) := by decide +kernel
abbrev b5_gapBefore : ByteArray := prog_1_method_84_code
def y5_gapBefore : MethodName := ⟨"ChannelSchedule", "gapBefore", "(III)I"⟩
theorem w5_gapBefore : YV y5_gapBefore b5_gapBefore 6 (some .int) 3 := ⟨LW_i 628 (by decide +kernel) (by decide +kernel), LW_i 17 (by decide +kernel) (by decide +kernel), LW_i 110 (by decide +kernel) (by decide +kernel), LW_i 629 (by decide +kernel) (by decide +kernel), by decide +kernel, by decide +kernel⟩
theorem d5_gapBefore_0 : decode b5_gapBefore 0 = .ok (.iload_n 2, 1) := by decide +kernel
theorem d5_gapBefore_1 : decode b5_gapBefore 1 = .ok (.istore 4, 2) := by decide +kernel
theorem d5_gapBefore_3 : decode b5_gapBefore 3 = .ok (.iconst 0, 1) := by decide +kernel
theorem d5_gapBefore_4 : decode b5_gapBefore 4 = .ok (.istore 5, 2) := by decide +kernel
theorem d5_gapBefore_6 : decode b5_gapBefore 6 = .ok (.iload 5, 2) := by decide +kernel
theorem d5_gapBefore_8 : decode b5_gapBefore 8 = .ok (.iload_n 1, 1) := by decide +kernel
theorem d5_gapBefore_9 : decode b5_gapBefore 9 = .ok (.if_icmp .ge 26, 3) := by decide +kernel
theorem d5_gapBefore_12 : decode b5_gapBefore 12 = .ok (.iload 4, 2) := by decide +kernel
theorem d5_gapBefore_14 : decode b5_gapBefore 14 = .ok (.aload_n 0, 1) := by decide +kernel
theorem d5_gapBefore_15 : decode b5_gapBefore 15 = .ok (.getfield 36, 3) := by decide +kernel
theorem d5_gapBefore_18 : decode b5_gapBefore 18 = .ok (.getfield 186, 3) := by decide +kernel
theorem d5_gapBefore_21 : decode b5_gapBefore 21 = .ok (.iload 5, 2) := by decide +kernel
theorem d5_gapBefore_23 : decode b5_gapBefore 23 = .ok (.iaload, 1) := by decide +kernel
theorem d5_gapBefore_24 : decode b5_gapBefore 24 = .ok (.invokestatic 200, 3) := by decide +kernel
theorem d5_gapBefore_27 : decode b5_gapBefore 27 = .ok (.istore 4, 2) := by decide +kernel
theorem d5_gapBefore_29 : decode b5_gapBefore 29 = .ok (.iinc 5 1, 3) := by decide +kernel
theorem d5_gapBefore_32 : decode b5_gapBefore 32 = .ok (.goto (-26), 3) := by decide +kernel
theorem d5_gapBefore_35 : decode b5_gapBefore 35 = .ok (.iload_n 1, 1) := by decide +kernel
theorem d5_gapBefore_36 : decode b5_gapBefore 36 = .ok (.aload_n 0, 1) := by decide +kernel
theorem d5_gapBefore_37 : decode b5_gapBefore 37 = .ok (.getfield 36, 3) := by decide +kernel
theorem d5_gapBefore_40 : decode b5_gapBefore 40 = .ok (.getfield 175, 3) := by decide +kernel
theorem d5_gapBefore_43 : decode b5_gapBefore 43 = .ok (.if_icmp .ge 21, 3) := by decide +kernel
theorem d5_gapBefore_46 : decode b5_gapBefore 46 = .ok (.aload_n 0, 1) := by decide +kernel
theorem d5_gapBefore_47 : decode b5_gapBefore 47 = .ok (.getfield 36, 3) := by decide +kernel
theorem d5_gapBefore_50 : decode b5_gapBefore 50 = .ok (.getfield 183, 3) := by decide +kernel
theorem d5_gapBefore_53 : decode b5_gapBefore 53 = .ok (.iload_n 1, 1) := by decide +kernel
theorem d5_gapBefore_54 : decode b5_gapBefore 54 = .ok (.iaload, 1) := by decide +kernel
theorem d5_gapBefore_55 : decode b5_gapBefore 55 = .ok (.iload_n 3, 1) := by decide +kernel
theorem d5_gapBefore_56 : decode b5_gapBefore 56 = .ok (.iconst 1, 1) := by decide +kernel
theorem d5_gapBefore_57 : decode b5_gapBefore 57 = .ok (.iadd, 1) := by decide +kernel
theorem d5_gapBefore_58 : decode b5_gapBefore 58 = .ok (.invokestatic 217, 3) := by decide +kernel
theorem d5_gapBefore_61 : decode b5_gapBefore 61 = .ok (.goto 6, 3) := by decide +kernel
theorem d5_gapBefore_64 : decode b5_gapBefore 64 = .ok (.iload_n 3, 1) := by decide +kernel
theorem d5_gapBefore_65 : decode b5_gapBefore 65 = .ok (.iconst 1, 1) := by decide +kernel
theorem d5_gapBefore_66 : decode b5_gapBefore 66 = .ok (.iadd, 1) := by decide +kernel
theorem d5_gapBefore_67 : decode b5_gapBefore 67 = .ok (.istore 5, 2) := by decide +kernel
theorem d5_gapBefore_69 : decode b5_gapBefore 69 = .ok (.iconst 0, 1) := by decide +kernel
theorem d5_gapBefore_70 : decode b5_gapBefore 70 = .ok (.iload 5, 2) := by decide +kernel
theorem d5_gapBefore_72 : decode b5_gapBefore 72 = .ok (.iload 4, 2) := by decide +kernel
theorem d5_gapBefore_74 : decode b5_gapBefore 74 = .ok (.isub, 1) := by decide +kernel
theorem d5_gapBefore_75 : decode b5_gapBefore 75 = .ok (.invokestatic 200, 3) := by decide +kernel
theorem d5_gapBefore_78 : decode b5_gapBefore 78 = .ok (.ireturn, 1) := by decide +kernel
abbrev b5_countEmpty : ByteArray := prog_1_method_85_code
def y5_countEmpty : MethodName := ⟨"ChannelSchedule", "countEmpty", "(II)I"⟩
theorem w5_countEmpty : YV y5_countEmpty b5_countEmpty 5 (some .int) 2 := ⟨LW_i 624 (by decide +kernel) (by decide +kernel), LW_i 16 (by decide +kernel) (by decide +kernel), LW_i 110 (by decide +kernel) (by decide +kernel), LW_i 625 (by decide +kernel) (by decide +kernel), by decide +kernel, by decide +kernel⟩
theorem d5_countEmpty_0 : decode b5_countEmpty 0 = .ok (.iconst 0, 1) := by decide +kernel
theorem d5_countEmpty_1 : decode b5_countEmpty 1 = .ok (.istore_n 3, 1) := by decide +kernel
theorem d5_countEmpty_2 : decode b5_countEmpty 2 = .ok (.iconst 0, 1) := by decide +kernel
theorem d5_countEmpty_3 : decode b5_countEmpty 3 = .ok (.istore 4, 2) := by decide +kernel
theorem d5_countEmpty_5 : decode b5_countEmpty 5 = .ok (.iload 4, 2) := by decide +kernel
theorem d5_countEmpty_7 : decode b5_countEmpty 7 = .ok (.aload_n 0, 1) := by decide +kernel
theorem d5_countEmpty_8 : decode b5_countEmpty 8 = .ok (.getfield 36, 3) := by decide +kernel
theorem d5_countEmpty_11 : decode b5_countEmpty 11 = .ok (.getfield 175, 3) := by decide +kernel
theorem d5_countEmpty_14 : decode b5_countEmpty 14 = .ok (.if_icmp .gt 20, 3) := by decide +kernel
theorem d5_countEmpty_17 : decode b5_countEmpty 17 = .ok (.iload_n 3, 1) := by decide +kernel
theorem d5_countEmpty_18 : decode b5_countEmpty 18 = .ok (.aload_n 0, 1) := by decide +kernel
theorem d5_countEmpty_19 : decode b5_countEmpty 19 = .ok (.iload 4, 2) := by decide +kernel
theorem d5_countEmpty_21 : decode b5_countEmpty 21 = .ok (.iload_n 1, 1) := by decide +kernel
theorem d5_countEmpty_22 : decode b5_countEmpty 22 = .ok (.iload_n 2, 1) := by decide +kernel
theorem d5_countEmpty_23 : decode b5_countEmpty 23 = .ok (.invokevirtual 196, 3) := by decide +kernel
theorem d5_countEmpty_26 : decode b5_countEmpty 26 = .ok (.iadd, 1) := by decide +kernel
theorem d5_countEmpty_27 : decode b5_countEmpty 27 = .ok (.istore_n 3, 1) := by decide +kernel
theorem d5_countEmpty_28 : decode b5_countEmpty 28 = .ok (.iinc 4 1, 3) := by decide +kernel
theorem d5_countEmpty_31 : decode b5_countEmpty 31 = .ok (.goto (-26), 3) := by decide +kernel
theorem d5_countEmpty_34 : decode b5_countEmpty 34 = .ok (.iload_n 3, 1) := by decide +kernel
theorem d5_countEmpty_35 : decode b5_countEmpty 35 = .ok (.ireturn, 1) := by decide +kernel
abbrev b5_servingStart : ByteArray := prog_1_method_86_code
def y5_servingStart : MethodName := ⟨"ChannelSchedule", "servingStart", "(I)I"⟩
theorem w5_servingStart : YV y5_servingStart b5_servingStart 2 (some .int) 1 := ⟨LW_i 1018 (by decide +kernel) (by decide +kernel), LW_i 27 (by decide +kernel) (by decide +kernel), LW_i 110 (by decide +kernel) (by decide +kernel), LW_i 1019 (by decide +kernel) (by decide +kernel), by decide +kernel, by decide +kernel⟩
theorem d5_servingStart_0 : decode b5_servingStart 0 = .ok (.aload_n 0, 1) := by decide +kernel
theorem d5_servingStart_1 : decode b5_servingStart 1 = .ok (.aload_n 0, 1) := by decide +kernel
theorem d5_servingStart_2 : decode b5_servingStart 2 = .ok (.getfield 36, 3) := by decide +kernel
theorem d5_servingStart_5 : decode b5_servingStart 5 = .ok (.getfield 237, 3) := by decide +kernel
theorem d5_servingStart_8 : decode b5_servingStart 8 = .ok (.iload_n 1, 1) := by decide +kernel
theorem d5_servingStart_9 : decode b5_servingStart 9 = .ok (.iaload, 1) := by decide +kernel
theorem d5_servingStart_10 : decode b5_servingStart 10 = .ok (.aload_n 0, 1) := by decide +kernel
theorem d5_servingStart_11 : decode b5_servingStart 11 = .ok (.getfield 36, 3) := by decide +kernel
theorem d5_servingStart_14 : decode b5_servingStart 14 = .ok (.getfield 240, 3) := by decide +kernel
theorem d5_servingStart_17 : decode b5_servingStart 17 = .ok (.iload_n 1, 1) := by decide +kernel
theorem d5_servingStart_18 : decode b5_servingStart 18 = .ok (.baload, 1) := by decide +kernel
theorem d5_servingStart_19 : decode b5_servingStart 19 = .ok (.aload_n 0, 1) := by decide +kernel
theorem d5_servingStart_20 : decode b5_servingStart 20 = .ok (.getfield 36, 3) := by decide +kernel
theorem d5_servingStart_23 : decode b5_servingStart 23 = .ok (.getfield 243, 3) := by decide +kernel
theorem d5_servingStart_26 : decode b5_servingStart 26 = .ok (.iload_n 1, 1) := by decide +kernel
theorem d5_servingStart_27 : decode b5_servingStart 27 = .ok (.iaload, 1) := by decide +kernel
theorem d5_servingStart_28 : decode b5_servingStart 28 = .ok (.aload_n 0, 1) := by decide +kernel
theorem d5_servingStart_29 : decode b5_servingStart 29 = .ok (.getfield 36, 3) := by decide +kernel
theorem d5_servingStart_32 : decode b5_servingStart 32 = .ok (.getfield 246, 3) := by decide +kernel
theorem d5_servingStart_35 : decode b5_servingStart 35 = .ok (.iload_n 1, 1) := by decide +kernel
theorem d5_servingStart_36 : decode b5_servingStart 36 = .ok (.iaload, 1) := by decide +kernel
theorem d5_servingStart_37 : decode b5_servingStart 37 = .ok (.invokevirtual 354, 3) := by decide +kernel
theorem d5_servingStart_40 : decode b5_servingStart 40 = .ok (.ireturn, 1) := by decide +kernel
abbrev b5_startToServe : ByteArray := prog_1_method_87_code
def y5_startToServe : MethodName := ⟨"ChannelSchedule", "startToServe", "(IZII)I"⟩
theorem w5_startToServe : YV y5_startToServe b5_startToServe 6 (some .int) 4 := ⟨LW_i 1022 (by decide +kernel) (by decide +kernel), LW_i 28 (by decide +kernel) (by decide +kernel), LW_i 110 (by decide +kernel) (by decide +kernel), LW_i 1023 (by decide +kernel) (by decide +kernel), by decide +kernel, by decide +kernel⟩
theorem d5_startToServe_0 : decode b5_startToServe 0 = .ok (.aload_n 0, 1) := by decide +kernel
theorem d5_startToServe_1 : decode b5_startToServe 1 = .ok (.getfield 36, 3) := by decide +kernel
theorem d5_startToServe_4 : decode b5_startToServe 4 = .ok (.getfield 175, 3) := by decide +kernel
theorem d5_startToServe_7 : decode b5_startToServe 7 = .ok (.bipush 20, 2) := by decide +kernel
theorem d5_startToServe_9 : decode b5_startToServe 9 = .ok (.if_icmp .ne 5, 3) := by decide +kernel
theorem d5_startToServe_12 : decode b5_startToServe 12 = .ok (.iconst (-1), 1) := by decide +kernel
theorem d5_startToServe_13 : decode b5_startToServe 13 = .ok (.ireturn, 1) := by decide +kernel
theorem d5_startToServe_14 : decode b5_startToServe 14 = .ok (.iload_n 3, 1) := by decide +kernel
theorem d5_startToServe_15 : decode b5_startToServe 15 = .ok (.aload_n 0, 1) := by decide +kernel
theorem d5_startToServe_16 : decode b5_startToServe 16 = .ok (.getfield 36, 3) := by decide +kernel
theorem d5_startToServe_19 : decode b5_startToServe 19 = .ok (.getfield 129, 3) := by decide +kernel
theorem d5_startToServe_22 : decode b5_startToServe 22 = .ok (.if_icmp .le 7, 3) := by decide +kernel
theorem d5_startToServe_25 : decode b5_startToServe 25 = .ok (.iload_n 3, 1) := by decide +kernel
theorem d5_startToServe_26 : decode b5_startToServe 26 = .ok (.goto 10, 3) := by decide +kernel
theorem d5_startToServe_29 : decode b5_startToServe 29 = .ok (.aload_n 0, 1) := by decide +kernel
theorem d5_startToServe_30 : decode b5_startToServe 30 = .ok (.getfield 36, 3) := by decide +kernel
theorem d5_startToServe_33 : decode b5_startToServe 33 = .ok (.getfield 129, 3) := by decide +kernel
theorem d5_startToServe_36 : decode b5_startToServe 36 = .ok (.istore 5, 2) := by decide +kernel
theorem d5_startToServe_38 : decode b5_startToServe 38 = .ok (.aload_n 0, 1) := by decide +kernel
theorem d5_startToServe_39 : decode b5_startToServe 39 = .ok (.iload_n 2, 1) := by decide +kernel
theorem d5_startToServe_40 : decode b5_startToServe 40 = .ok (.iload 5, 2) := by decide +kernel
theorem d5_startToServe_42 : decode b5_startToServe 42 = .ok (.iload 4, 2) := by decide +kernel
theorem d5_startToServe_44 : decode b5_startToServe 44 = .ok (.aload_n 0, 1) := by decide +kernel
theorem d5_startToServe_45 : decode b5_startToServe 45 = .ok (.iload_n 1, 1) := by decide +kernel
theorem d5_startToServe_46 : decode b5_startToServe 46 = .ok (.invokevirtual 139, 3) := by decide +kernel
theorem d5_startToServe_49 : decode b5_startToServe 49 = .ok (.iconst (-1), 1) := by decide +kernel
theorem d5_startToServe_50 : decode b5_startToServe 50 = .ok (.invokevirtual 213, 3) := by decide +kernel
theorem d5_startToServe_53 : decode b5_startToServe 53 = .ok (.ireturn, 1) := by decide +kernel
abbrev b5_serveWaiting : ByteArray := prog_1_method_88_code
def y5_serveWaiting : MethodName := ⟨"ChannelSchedule", "serveWaiting", "()I"⟩
theorem w5_serveWaiting : YV y5_serveWaiting b5_serveWaiting 7 (some .int) 0 := ⟨LW_i 1060 (by decide +kernel) (by decide +kernel), LW_i 30 (by decide +kernel) (by decide +kernel), LW_i 110 (by decide +kernel) (by decide +kernel), LW_i 1061 (by decide +kernel) (by decide +kernel), by decide +kernel, by decide +kernel⟩
theorem d5_serveWaiting_0 : decode b5_serveWaiting 0 = .ok (.iconst 0, 1) := by decide +kernel
theorem d5_serveWaiting_1 : decode b5_serveWaiting 1 = .ok (.istore_n 1, 1) := by decide +kernel
theorem d5_serveWaiting_2 : decode b5_serveWaiting 2 = .ok (.iconst 0, 1) := by decide +kernel
theorem d5_serveWaiting_3 : decode b5_serveWaiting 3 = .ok (.istore_n 2, 1) := by decide +kernel
theorem d5_serveWaiting_4 : decode b5_serveWaiting 4 = .ok (.aload_n 0, 1) := by decide +kernel
theorem d5_serveWaiting_5 : decode b5_serveWaiting 5 = .ok (.getfield 36, 3) := by decide +kernel
theorem d5_serveWaiting_8 : decode b5_serveWaiting 8 = .ok (.getfield 231, 3) := by decide +kernel
theorem d5_serveWaiting_11 : decode b5_serveWaiting 11 = .ok (.istore_n 3, 1) := by decide +kernel
theorem d5_serveWaiting_12 : decode b5_serveWaiting 12 = .ok (.iload_n 3, 1) := by decide +kernel
theorem d5_serveWaiting_13 : decode b5_serveWaiting 13 = .ok (.ifCond .le 93, 3) := by decide +kernel
theorem d5_serveWaiting_16 : decode b5_serveWaiting 16 = .ok (.aload_n 0, 1) := by decide +kernel
theorem d5_serveWaiting_17 : decode b5_serveWaiting 17 = .ok (.getfield 36, 3) := by decide +kernel
theorem d5_serveWaiting_20 : decode b5_serveWaiting 20 = .ok (.getfield 237, 3) := by decide +kernel
theorem d5_serveWaiting_23 : decode b5_serveWaiting 23 = .ok (.iload_n 2, 1) := by decide +kernel
theorem d5_serveWaiting_24 : decode b5_serveWaiting 24 = .ok (.iaload, 1) := by decide +kernel
theorem d5_serveWaiting_25 : decode b5_serveWaiting 25 = .ok (.istore 4, 2) := by decide +kernel
theorem d5_serveWaiting_27 : decode b5_serveWaiting 27 = .ok (.aload_n 0, 1) := by decide +kernel
theorem d5_serveWaiting_28 : decode b5_serveWaiting 28 = .ok (.getfield 36, 3) := by decide +kernel
theorem d5_serveWaiting_31 : decode b5_serveWaiting 31 = .ok (.getfield 240, 3) := by decide +kernel
theorem d5_serveWaiting_34 : decode b5_serveWaiting 34 = .ok (.iload_n 2, 1) := by decide +kernel
theorem d5_serveWaiting_35 : decode b5_serveWaiting 35 = .ok (.baload, 1) := by decide +kernel
theorem d5_serveWaiting_36 : decode b5_serveWaiting 36 = .ok (.istore 5, 2) := by decide +kernel
theorem d5_serveWaiting_38 : decode b5_serveWaiting 38 = .ok (.aload_n 0, 1) := by decide +kernel
theorem d5_serveWaiting_39 : decode b5_serveWaiting 39 = .ok (.iload 4, 2) := by decide +kernel
theorem d5_serveWaiting_41 : decode b5_serveWaiting 41 = .ok (.iload 5, 2) := by decide +kernel
theorem d5_serveWaiting_43 : decode b5_serveWaiting 43 = .ok (.aload_n 0, 1) := by decide +kernel
theorem d5_serveWaiting_44 : decode b5_serveWaiting 44 = .ok (.getfield 36, 3) := by decide +kernel
theorem d5_serveWaiting_47 : decode b5_serveWaiting 47 = .ok (.getfield 243, 3) := by decide +kernel
theorem d5_serveWaiting_50 : decode b5_serveWaiting 50 = .ok (.iload_n 2, 1) := by decide +kernel
theorem d5_serveWaiting_51 : decode b5_serveWaiting 51 = .ok (.iaload, 1) := by decide +kernel
theorem d5_serveWaiting_52 : decode b5_serveWaiting 52 = .ok (.aload_n 0, 1) := by decide +kernel
theorem d5_serveWaiting_53 : decode b5_serveWaiting 53 = .ok (.getfield 36, 3) := by decide +kernel
theorem d5_serveWaiting_56 : decode b5_serveWaiting 56 = .ok (.getfield 246, 3) := by decide +kernel
theorem d5_serveWaiting_59 : decode b5_serveWaiting 59 = .ok (.iload_n 2, 1) := by decide +kernel
theorem d5_serveWaiting_60 : decode b5_serveWaiting 60 = .ok (.iaload, 1) := by decide +kernel
theorem d5_serveWaiting_61 : decode b5_serveWaiting 61 = .ok (.invokevirtual 354, 3) := by decide +kernel
theorem d5_serveWaiting_64 : decode b5_serveWaiting 64 = .ok (.istore 6, 2) := by decide +kernel
theorem d5_serveWaiting_66 : decode b5_serveWaiting 66 = .ok (.iload 6, 2) := by decide +kernel
theorem d5_serveWaiting_68 : decode b5_serveWaiting 68 = .ok (.iconst (-1), 1) := by decide +kernel
theorem d5_serveWaiting_69 : decode b5_serveWaiting 69 = .ok (.if_icmp .ne 9, 3) := by decide +kernel
theorem d5_serveWaiting_72 : decode b5_serveWaiting 72 = .ok (.iinc 2 1, 3) := by decide +kernel
theorem d5_serveWaiting_75 : decode b5_serveWaiting 75 = .ok (.goto 25, 3) := by decide +kernel
theorem d5_serveWaiting_78 : decode b5_serveWaiting 78 = .ok (.aload_n 0, 1) := by decide +kernel
theorem d5_serveWaiting_79 : decode b5_serveWaiting 79 = .ok (.getfield 36, 3) := by decide +kernel
theorem d5_serveWaiting_82 : decode b5_serveWaiting 82 = .ok (.iload_n 2, 1) := by decide +kernel
theorem d5_serveWaiting_83 : decode b5_serveWaiting 83 = .ok (.invokevirtual 306, 3) := by decide +kernel
theorem d5_serveWaiting_86 : decode b5_serveWaiting 86 = .ok (.aload_n 0, 1) := by decide +kernel
theorem d5_serveWaiting_87 : decode b5_serveWaiting 87 = .ok (.iload 4, 2) := by decide +kernel
theorem d5_serveWaiting_89 : decode b5_serveWaiting 89 = .ok (.iload 5, 2) := by decide +kernel
theorem d5_serveWaiting_91 : decode b5_serveWaiting 91 = .ok (.iload 6, 2) := by decide +kernel
theorem d5_serveWaiting_93 : decode b5_serveWaiting 93 = .ok (.invokevirtual 287, 3) := by decide +kernel
theorem d5_serveWaiting_96 : decode b5_serveWaiting 96 = .ok (.pop, 1) := by decide +kernel
theorem d5_serveWaiting_97 : decode b5_serveWaiting 97 = .ok (.iinc 1 1, 3) := by decide +kernel
theorem d5_serveWaiting_100 : decode b5_serveWaiting 100 = .ok (.iinc 3 (-1), 3) := by decide +kernel
theorem d5_serveWaiting_103 : decode b5_serveWaiting 103 = .ok (.goto (-91), 3) := by decide +kernel
theorem d5_serveWaiting_106 : decode b5_serveWaiting 106 = .ok (.aload_n 0, 1) := by decide +kernel
theorem d5_serveWaiting_107 : decode b5_serveWaiting 107 = .ok (.getfield 36, 3) := by decide +kernel
theorem d5_serveWaiting_110 : decode b5_serveWaiting 110 = .ok (.dup, 1) := by decide +kernel
theorem d5_serveWaiting_111 : decode b5_serveWaiting 111 = .ok (.getfield 274, 3) := by decide +kernel
theorem d5_serveWaiting_114 : decode b5_serveWaiting 114 = .ok (.iload_n 1, 1) := by decide +kernel
theorem d5_serveWaiting_115 : decode b5_serveWaiting 115 = .ok (.iadd, 1) := by decide +kernel
theorem d5_serveWaiting_116 : decode b5_serveWaiting 116 = .ok (.putfield 274, 3) := by decide +kernel
theorem d5_serveWaiting_119 : decode b5_serveWaiting 119 = .ok (.iload_n 1, 1) := by decide +kernel
theorem d5_serveWaiting_120 : decode b5_serveWaiting 120 = .ok (.ireturn, 1) := by decide +kernel
abbrev b5_bitOf : ByteArray := prog_1_method_89_code
def y5_bitOf : MethodName := ⟨"ChannelSchedule", "bitOf", "(I)I"⟩
theorem w5_bitOf : YV y5_bitOf b5_bitOf 2 (some .int) 1 := ⟨LW_i 588 (by decide +kernel) (by decide +kernel), LW_i 12 (by decide +kernel) (by decide +kernel), LW_i 110 (by decide +kernel) (by decide +kernel), LW_i 589 (by decide +kernel) (by decide +kernel), by decide +kernel, by decide +kernel⟩
theorem d5_bitOf_0 : decode b5_bitOf 0 = .ok (.iconst 1, 1) := by decide +kernel
theorem d5_bitOf_1 : decode b5_bitOf 1 = .ok (.aload_n 0, 1) := by decide +kernel
theorem d5_bitOf_2 : decode b5_bitOf 2 = .ok (.getfield 36, 3) := by decide +kernel
theorem d5_bitOf_5 : decode b5_bitOf 5 = .ok (.getfield 231, 3) := by decide +kernel
theorem d5_bitOf_8 : decode b5_bitOf 8 = .ok (.iconst 1, 1) := by decide +kernel
theorem d5_bitOf_9 : decode b5_bitOf 9 = .ok (.isub, 1) := by decide +kernel
theorem d5_bitOf_10 : decode b5_bitOf 10 = .ok (.iload_n 1, 1) := by decide +kernel
theorem d5_bitOf_11 : decode b5_bitOf 11 = .ok (.isub, 1) := by decide +kernel
theorem d5_bitOf_12 : decode b5_bitOf 12 = .ok (.ishl, 1) := by decide +kernel
theorem d5_bitOf_13 : decode b5_bitOf 13 = .ok (.ireturn, 1) := by decide +kernel
abbrev b5_bestSelection : ByteArray := prog_1_method_90_code
def y5_bestSelection : MethodName := ⟨"ChannelSchedule", "bestSelection", "()I"⟩
theorem w5_bestSelection : YV y5_bestSelection b5_bestSelection 5 (some .int) 0 := ⟨LW_i 560 (by decide +kernel) (by decide +kernel), LW_i 5 (by decide +kernel) (by decide +kernel), LW_i 110 (by decide +kernel) (by decide +kernel), LW_i 561 (by decide +kernel) (by decide +kernel), by decide +kernel, by decide +kernel⟩
theorem d5_bestSelection_0 : decode b5_bestSelection 0 = .ok (.aload_n 0, 1) := by decide +kernel
theorem d5_bestSelection_1 : decode b5_bestSelection 1 = .ok (.invokevirtual 357, 3) := by decide +kernel
theorem d5_bestSelection_4 : decode b5_bestSelection 4 = .ok (.iconst 0, 1) := by decide +kernel
theorem d5_bestSelection_5 : decode b5_bestSelection 5 = .ok (.istore_n 1, 1) := by decide +kernel
theorem d5_bestSelection_6 : decode b5_bestSelection 6 = .ok (.iconst 0, 1) := by decide +kernel
theorem d5_bestSelection_7 : decode b5_bestSelection 7 = .ok (.istore_n 2, 1) := by decide +kernel
theorem d5_bestSelection_8 : decode b5_bestSelection 8 = .ok (.iconst 1, 1) := by decide +kernel
theorem d5_bestSelection_9 : decode b5_bestSelection 9 = .ok (.aload_n 0, 1) := by decide +kernel
theorem d5_bestSelection_10 : decode b5_bestSelection 10 = .ok (.getfield 36, 3) := by decide +kernel
theorem d5_bestSelection_13 : decode b5_bestSelection 13 = .ok (.getfield 231, 3) := by decide +kernel
theorem d5_bestSelection_16 : decode b5_bestSelection 16 = .ok (.ishl, 1) := by decide +kernel
theorem d5_bestSelection_17 : decode b5_bestSelection 17 = .ok (.iconst 1, 1) := by decide +kernel
theorem d5_bestSelection_18 : decode b5_bestSelection 18 = .ok (.isub, 1) := by decide +kernel
theorem d5_bestSelection_19 : decode b5_bestSelection 19 = .ok (.istore_n 3, 1) := by decide +kernel
theorem d5_bestSelection_20 : decode b5_bestSelection 20 = .ok (.iload_n 3, 1) := by decide +kernel
theorem d5_bestSelection_21 : decode b5_bestSelection 21 = .ok (.ifCond .le 39, 3) := by decide +kernel
theorem d5_bestSelection_24 : decode b5_bestSelection 24 = .ok (.aload_n 0, 1) := by decide +kernel
theorem d5_bestSelection_25 : decode b5_bestSelection 25 = .ok (.iload_n 3, 1) := by decide +kernel
theorem d5_bestSelection_26 : decode b5_bestSelection 26 = .ok (.invokevirtual 360, 3) := by decide +kernel
theorem d5_bestSelection_29 : decode b5_bestSelection 29 = .ok (.ifCond .eq 11, 3) := by decide +kernel
theorem d5_bestSelection_32 : decode b5_bestSelection 32 = .ok (.aload_n 0, 1) := by decide +kernel
theorem d5_bestSelection_33 : decode b5_bestSelection 33 = .ok (.iload_n 3, 1) := by decide +kernel
theorem d5_bestSelection_34 : decode b5_bestSelection 34 = .ok (.invokevirtual 255, 3) := by decide +kernel
theorem d5_bestSelection_37 : decode b5_bestSelection 37 = .ok (.goto 4, 3) := by decide +kernel
theorem d5_bestSelection_40 : decode b5_bestSelection 40 = .ok (.iconst 0, 1) := by decide +kernel
theorem d5_bestSelection_41 : decode b5_bestSelection 41 = .ok (.istore 4, 2) := by decide +kernel
theorem d5_bestSelection_43 : decode b5_bestSelection 43 = .ok (.iload 4, 2) := by decide +kernel
theorem d5_bestSelection_45 : decode b5_bestSelection 45 = .ok (.iload_n 2, 1) := by decide +kernel
theorem d5_bestSelection_46 : decode b5_bestSelection 46 = .ok (.if_icmp .le 8, 3) := by decide +kernel
theorem d5_bestSelection_49 : decode b5_bestSelection 49 = .ok (.iload_n 3, 1) := by decide +kernel
theorem d5_bestSelection_50 : decode b5_bestSelection 50 = .ok (.istore_n 1, 1) := by decide +kernel
theorem d5_bestSelection_51 : decode b5_bestSelection 51 = .ok (.iload 4, 2) := by decide +kernel
theorem d5_bestSelection_53 : decode b5_bestSelection 53 = .ok (.istore_n 2, 1) := by decide +kernel
theorem d5_bestSelection_54 : decode b5_bestSelection 54 = .ok (.iinc 3 (-1), 3) := by decide +kernel
theorem d5_bestSelection_57 : decode b5_bestSelection 57 = .ok (.goto (-37), 3) := by decide +kernel
theorem d5_bestSelection_60 : decode b5_bestSelection 60 = .ok (.iload_n 1, 1) := by decide +kernel
theorem d5_bestSelection_61 : decode b5_bestSelection 61 = .ok (.ireturn, 1) := by decide +kernel
abbrev b5_isSelection : ByteArray := prog_1_method_91_code
def y5_isSelection : MethodName := ⟨"ChannelSchedule", "isSelection", "(I)Z"⟩
theorem w5_isSelection : YV y5_isSelection b5_isSelection 3 (some .boolean) 1 := ⟨LW_i 596 (by decide +kernel) (by decide +kernel), LW_i 14 (by decide +kernel) (by decide +kernel), LW_i 110 (by decide +kernel) (by decide +kernel), LW_i 597 (by decide +kernel) (by decide +kernel), by decide +kernel, by decide +kernel⟩
theorem d5_isSelection_0 : decode b5_isSelection 0 = .ok (.iconst 0, 1) := by decide +kernel
theorem d5_isSelection_1 : decode b5_isSelection 1 = .ok (.istore_n 2, 1) := by decide +kernel
theorem d5_isSelection_2 : decode b5_isSelection 2 = .ok (.iload_n 2, 1) := by decide +kernel
theorem d5_isSelection_3 : decode b5_isSelection 3 = .ok (.aload_n 0, 1) := by decide +kernel
theorem d5_isSelection_4 : decode b5_isSelection 4 = .ok (.getfield 36, 3) := by decide +kernel
theorem d5_isSelection_7 : decode b5_isSelection 7 = .ok (.getfield 231, 3) := by decide +kernel
theorem d5_isSelection_10 : decode b5_isSelection 10 = .ok (.if_icmp .ge 32, 3) := by decide +kernel
theorem d5_isSelection_13 : decode b5_isSelection 13 = .ok (.iload_n 1, 1) := by decide +kernel
theorem d5_isSelection_14 : decode b5_isSelection 14 = .ok (.aload_n 0, 1) := by decide +kernel
theorem d5_isSelection_15 : decode b5_isSelection 15 = .ok (.iload_n 2, 1) := by decide +kernel
theorem d5_isSelection_16 : decode b5_isSelection 16 = .ok (.invokevirtual 258, 3) := by decide +kernel
theorem d5_isSelection_19 : decode b5_isSelection 19 = .ok (.iand, 1) := by decide +kernel
theorem d5_isSelection_20 : decode b5_isSelection 20 = .ok (.ifCond .eq 16, 3) := by decide +kernel
theorem d5_isSelection_23 : decode b5_isSelection 23 = .ok (.iload_n 1, 1) := by decide +kernel
theorem d5_isSelection_24 : decode b5_isSelection 24 = .ok (.aload_n 0, 1) := by decide +kernel
theorem d5_isSelection_25 : decode b5_isSelection 25 = .ok (.getfield 61, 3) := by decide +kernel
theorem d5_isSelection_28 : decode b5_isSelection 28 = .ok (.iload_n 2, 1) := by decide +kernel
theorem d5_isSelection_29 : decode b5_isSelection 29 = .ok (.iaload, 1) := by decide +kernel
theorem d5_isSelection_30 : decode b5_isSelection 30 = .ok (.iand, 1) := by decide +kernel
theorem d5_isSelection_31 : decode b5_isSelection 31 = .ok (.ifCond .eq 5, 3) := by decide +kernel
theorem d5_isSelection_34 : decode b5_isSelection 34 = .ok (.iconst 0, 1) := by decide +kernel
theorem d5_isSelection_35 : decode b5_isSelection 35 = .ok (.ireturn, 1) := by decide +kernel
theorem d5_isSelection_36 : decode b5_isSelection 36 = .ok (.iinc 2 1, 3) := by decide +kernel
theorem d5_isSelection_39 : decode b5_isSelection 39 = .ok (.goto (-37), 3) := by decide +kernel
theorem d5_isSelection_42 : decode b5_isSelection 42 = .ok (.iconst 1, 1) := by decide +kernel
theorem d5_isSelection_43 : decode b5_isSelection 43 = .ok (.ireturn, 1) := by decide +kernel
abbrev b5_valueOf : ByteArray := prog_1_method_92_code
def y5_valueOf : MethodName := ⟨"ChannelSchedule", "valueOf", "(I)I"⟩
theorem w5_valueOf : YV y5_valueOf b5_valueOf 4 (some .int) 1 := ⟨LW_i 600 (by decide +kernel) (by decide +kernel), LW_i 15 (by decide +kernel) (by decide +kernel), LW_i 110 (by decide +kernel) (by decide +kernel), LW_i 601 (by decide +kernel) (by decide +kernel), by decide +kernel, by decide +kernel⟩
theorem d5_valueOf_0 : decode b5_valueOf 0 = .ok (.iconst 0, 1) := by decide +kernel
theorem d5_valueOf_1 : decode b5_valueOf 1 = .ok (.istore_n 2, 1) := by decide +kernel
theorem d5_valueOf_2 : decode b5_valueOf 2 = .ok (.iconst 0, 1) := by decide +kernel
theorem d5_valueOf_3 : decode b5_valueOf 3 = .ok (.istore_n 3, 1) := by decide +kernel
theorem d5_valueOf_4 : decode b5_valueOf 4 = .ok (.iload_n 3, 1) := by decide +kernel
theorem d5_valueOf_5 : decode b5_valueOf 5 = .ok (.aload_n 0, 1) := by decide +kernel
theorem d5_valueOf_6 : decode b5_valueOf 6 = .ok (.getfield 36, 3) := by decide +kernel
theorem d5_valueOf_9 : decode b5_valueOf 9 = .ok (.getfield 231, 3) := by decide +kernel
theorem d5_valueOf_12 : decode b5_valueOf 12 = .ok (.if_icmp .ge 42, 3) := by decide +kernel
theorem d5_valueOf_15 : decode b5_valueOf 15 = .ok (.iload_n 1, 1) := by decide +kernel
theorem d5_valueOf_16 : decode b5_valueOf 16 = .ok (.aload_n 0, 1) := by decide +kernel
theorem d5_valueOf_17 : decode b5_valueOf 17 = .ok (.iload_n 3, 1) := by decide +kernel
theorem d5_valueOf_18 : decode b5_valueOf 18 = .ok (.invokevirtual 258, 3) := by decide +kernel
theorem d5_valueOf_21 : decode b5_valueOf 21 = .ok (.iand, 1) := by decide +kernel
theorem d5_valueOf_22 : decode b5_valueOf 22 = .ok (.ifCond .eq 26, 3) := by decide +kernel
theorem d5_valueOf_25 : decode b5_valueOf 25 = .ok (.iload_n 2, 1) := by decide +kernel
theorem d5_valueOf_26 : decode b5_valueOf 26 = .ok (.aload_n 0, 1) := by decide +kernel
theorem d5_valueOf_27 : decode b5_valueOf 27 = .ok (.getfield 26, 3) := by decide +kernel
theorem d5_valueOf_30 : decode b5_valueOf 30 = .ok (.getfield 143, 3) := by decide +kernel
theorem d5_valueOf_33 : decode b5_valueOf 33 = .ok (.aload_n 0, 1) := by decide +kernel
theorem d5_valueOf_34 : decode b5_valueOf 34 = .ok (.getfield 36, 3) := by decide +kernel
theorem d5_valueOf_37 : decode b5_valueOf 37 = .ok (.getfield 237, 3) := by decide +kernel
theorem d5_valueOf_40 : decode b5_valueOf 40 = .ok (.iload_n 3, 1) := by decide +kernel
theorem d5_valueOf_41 : decode b5_valueOf 41 = .ok (.iaload, 1) := by decide +kernel
theorem d5_valueOf_42 : decode b5_valueOf 42 = .ok (.aaload, 1) := by decide +kernel
theorem d5_valueOf_43 : decode b5_valueOf 43 = .ok (.getfield 152, 3) := by decide +kernel
theorem d5_valueOf_46 : decode b5_valueOf 46 = .ok (.iadd, 1) := by decide +kernel
theorem d5_valueOf_47 : decode b5_valueOf 47 = .ok (.istore_n 2, 1) := by decide +kernel
theorem d5_valueOf_48 : decode b5_valueOf 48 = .ok (.iinc 3 1, 3) := by decide +kernel
theorem d5_valueOf_51 : decode b5_valueOf 51 = .ok (.goto (-47), 3) := by decide +kernel
theorem d5_valueOf_54 : decode b5_valueOf 54 = .ok (.iload_n 2, 1) := by decide +kernel
theorem d5_valueOf_55 : decode b5_valueOf 55 = .ok (.ireturn, 1) := by decide +kernel
abbrev b5_findExcluded : ByteArray := prog_1_method_93_code
def y5_findExcluded : MethodName := ⟨"ChannelSchedule", "findExcluded", "()V"⟩
theorem w5_findExcluded : YV y5_findExcluded b5_findExcluded 5 none 0 := ⟨LW_i 564 (by decide +kernel) (by decide +kernel), LW_i 6 (by decide +kernel) (by decide +kernel), LW_i 110 (by decide +kernel) (by decide +kernel), LW_i 565 (by decide +kernel) (by decide +kernel), by decide +kernel, by decide +kernel⟩
theorem d5_findExcluded_0 : decode b5_findExcluded 0 = .ok (.iconst 0, 1) := by decide +kernel
theorem d5_findExcluded_1 : decode b5_findExcluded 1 = .ok (.istore_n 1, 1) := by decide +kernel
theorem d5_findExcluded_2 : decode b5_findExcluded 2 = .ok (.iload_n 1, 1) := by decide +kernel
theorem d5_findExcluded_3 : decode b5_findExcluded 3 = .ok (.aload_n 0, 1) := by decide +kernel
theorem d5_findExcluded_4 : decode b5_findExcluded 4 = .ok (.getfield 36, 3) := by decide +kernel
theorem d5_findExcluded_7 : decode b5_findExcluded 7 = .ok (.getfield 231, 3) := by decide +kernel
theorem d5_findExcluded_10 : decode b5_findExcluded 10 = .ok (.if_icmp .ge 120, 3) := by decide +kernel
theorem d5_findExcluded_13 : decode b5_findExcluded 13 = .ok (.aload_n 0, 1) := by decide +kernel
theorem d5_findExcluded_14 : decode b5_findExcluded 14 = .ok (.aload_n 0, 1) := by decide +kernel
theorem d5_findExcluded_15 : decode b5_findExcluded 15 = .ok (.getfield 36, 3) := by decide +kernel
theorem d5_findExcluded_18 : decode b5_findExcluded 18 = .ok (.getfield 237, 3) := by decide +kernel
theorem d5_findExcluded_21 : decode b5_findExcluded 21 = .ok (.iload_n 1, 1) := by decide +kernel
theorem d5_findExcluded_22 : decode b5_findExcluded 22 = .ok (.iaload, 1) := by decide +kernel
theorem d5_findExcluded_23 : decode b5_findExcluded 23 = .ok (.invokevirtual 139, 3) := by decide +kernel
theorem d5_findExcluded_26 : decode b5_findExcluded 26 = .ok (.istore_n 2, 1) := by decide +kernel
theorem d5_findExcluded_27 : decode b5_findExcluded 27 = .ok (.aload_n 0, 1) := by decide +kernel
theorem d5_findExcluded_28 : decode b5_findExcluded 28 = .ok (.aload_n 0, 1) := by decide +kernel
theorem d5_findExcluded_29 : decode b5_findExcluded 29 = .ok (.getfield 36, 3) := by decide +kernel
theorem d5_findExcluded_32 : decode b5_findExcluded 32 = .ok (.getfield 240, 3) := by decide +kernel
theorem d5_findExcluded_35 : decode b5_findExcluded 35 = .ok (.iload_n 1, 1) := by decide +kernel
theorem d5_findExcluded_36 : decode b5_findExcluded 36 = .ok (.baload, 1) := by decide +kernel
theorem d5_findExcluded_37 : decode b5_findExcluded 37 = .ok (.aload_n 0, 1) := by decide +kernel
theorem d5_findExcluded_38 : decode b5_findExcluded 38 = .ok (.getfield 36, 3) := by decide +kernel
theorem d5_findExcluded_41 : decode b5_findExcluded 41 = .ok (.getfield 243, 3) := by decide +kernel
theorem d5_findExcluded_44 : decode b5_findExcluded 44 = .ok (.iload_n 1, 1) := by decide +kernel
theorem d5_findExcluded_45 : decode b5_findExcluded 45 = .ok (.iaload, 1) := by decide +kernel
theorem d5_findExcluded_46 : decode b5_findExcluded 46 = .ok (.iload_n 2, 1) := by decide +kernel
theorem d5_findExcluded_47 : decode b5_findExcluded 47 = .ok (.iconst (-1), 1) := by decide +kernel
theorem d5_findExcluded_48 : decode b5_findExcluded 48 = .ok (.invokevirtual 209, 3) := by decide +kernel
theorem d5_findExcluded_51 : decode b5_findExcluded 51 = .ok (.istore_n 3, 1) := by decide +kernel
theorem d5_findExcluded_52 : decode b5_findExcluded 52 = .ok (.aload_n 0, 1) := by decide +kernel
theorem d5_findExcluded_53 : decode b5_findExcluded 53 = .ok (.getfield 61, 3) := by decide +kernel
theorem d5_findExcluded_56 : decode b5_findExcluded 56 = .ok (.iload_n 1, 1) := by decide +kernel
theorem d5_findExcluded_57 : decode b5_findExcluded 57 = .ok (.iload_n 3, 1) := by decide +kernel
theorem d5_findExcluded_58 : decode b5_findExcluded 58 = .ok (.iconst (-1), 1) := by decide +kernel
theorem d5_findExcluded_59 : decode b5_findExcluded 59 = .ok (.if_icmp .ne 7, 3) := by decide +kernel
theorem d5_findExcluded_62 : decode b5_findExcluded 62 = .ok (.iconst 0, 1) := by decide +kernel
theorem d5_findExcluded_63 : decode b5_findExcluded 63 = .ok (.goto 8, 3) := by decide +kernel
theorem d5_findExcluded_66 : decode b5_findExcluded 66 = .ok (.aload_n 0, 1) := by decide +kernel
theorem d5_findExcluded_67 : decode b5_findExcluded 67 = .ok (.iload_n 1, 1) := by decide +kernel
theorem d5_findExcluded_68 : decode b5_findExcluded 68 = .ok (.invokevirtual 258, 3) := by decide +kernel
theorem d5_findExcluded_71 : decode b5_findExcluded 71 = .ok (.iastore, 1) := by decide +kernel
theorem d5_findExcluded_72 : decode b5_findExcluded 72 = .ok (.iconst 0, 1) := by decide +kernel
theorem d5_findExcluded_73 : decode b5_findExcluded 73 = .ok (.istore 4, 2) := by decide +kernel
theorem d5_findExcluded_75 : decode b5_findExcluded 75 = .ok (.iload 4, 2) := by decide +kernel
theorem d5_findExcluded_77 : decode b5_findExcluded 77 = .ok (.aload_n 0, 1) := by decide +kernel
theorem d5_findExcluded_78 : decode b5_findExcluded 78 = .ok (.getfield 36, 3) := by decide +kernel
theorem d5_findExcluded_81 : decode b5_findExcluded 81 = .ok (.getfield 231, 3) := by decide +kernel
theorem d5_findExcluded_84 : decode b5_findExcluded 84 = .ok (.if_icmp .ge 40, 3) := by decide +kernel
theorem d5_findExcluded_87 : decode b5_findExcluded 87 = .ok (.iload 4, 2) := by decide +kernel
theorem d5_findExcluded_89 : decode b5_findExcluded 89 = .ok (.iload_n 1, 1) := by decide +kernel
theorem d5_findExcluded_90 : decode b5_findExcluded 90 = .ok (.if_icmp .eq 28, 3) := by decide +kernel
theorem d5_findExcluded_93 : decode b5_findExcluded 93 = .ok (.aload_n 0, 1) := by decide +kernel
theorem d5_findExcluded_94 : decode b5_findExcluded 94 = .ok (.iload_n 1, 1) := by decide +kernel
theorem d5_findExcluded_95 : decode b5_findExcluded 95 = .ok (.iload 4, 2) := by decide +kernel
theorem d5_findExcluded_97 : decode b5_findExcluded 97 = .ok (.invokevirtual 363, 3) := by decide +kernel
theorem d5_findExcluded_100 : decode b5_findExcluded 100 = .ok (.ifCond .eq 18, 3) := by decide +kernel
theorem d5_findExcluded_103 : decode b5_findExcluded 103 = .ok (.aload_n 0, 1) := by decide +kernel
theorem d5_findExcluded_104 : decode b5_findExcluded 104 = .ok (.getfield 61, 3) := by decide +kernel
theorem d5_findExcluded_107 : decode b5_findExcluded 107 = .ok (.iload_n 1, 1) := by decide +kernel
theorem d5_findExcluded_108 : decode b5_findExcluded 108 = .ok (.dup2, 1) := by decide +kernel
theorem d5_findExcluded_109 : decode b5_findExcluded 109 = .ok (.iaload, 1) := by decide +kernel
theorem d5_findExcluded_110 : decode b5_findExcluded 110 = .ok (.aload_n 0, 1) := by decide +kernel
theorem d5_findExcluded_111 : decode b5_findExcluded 111 = .ok (.iload 4, 2) := by decide +kernel
theorem d5_findExcluded_113 : decode b5_findExcluded 113 = .ok (.invokevirtual 258, 3) := by decide +kernel
theorem d5_findExcluded_116 : decode b5_findExcluded 116 = .ok (.ior, 1) := by decide +kernel
theorem d5_findExcluded_117 : decode b5_findExcluded 117 = .ok (.iastore, 1) := by decide +kernel
theorem d5_findExcluded_118 : decode b5_findExcluded 118 = .ok (.iinc 4 1, 3) := by decide +kernel
theorem d5_findExcluded_121 : decode b5_findExcluded 121 = .ok (.goto (-46), 3) := by decide +kernel
theorem d5_findExcluded_124 : decode b5_findExcluded 124 = .ok (.iinc 1 1, 3) := by decide +kernel
theorem d5_findExcluded_127 : decode b5_findExcluded 127 = .ok (.goto (-125), 3) := by decide +kernel
theorem d5_findExcluded_130 : decode b5_findExcluded 130 = .ok (.return_, 1) := by decide +kernel
abbrev b5_requestsClash : ByteArray := prog_1_method_94_code
def y5_requestsClash : MethodName := ⟨"ChannelSchedule", "requestsClash", "(II)Z"⟩
theorem w5_requestsClash : YV y5_requestsClash b5_requestsClash 8 (some .boolean) 2 := ⟨LW_i 592 (by decide +kernel) (by decide +kernel), LW_i 13 (by decide +kernel) (by decide +kernel), LW_i 110 (by decide +kernel) (by decide +kernel), LW_i 593 (by decide +kernel) (by decide +kernel), by decide +kernel, by decide +kernel⟩
theorem d5_requestsClash_0 : decode b5_requestsClash 0 = .ok (.aload_n 0, 1) := by decide +kernel
theorem d5_requestsClash_1 : decode b5_requestsClash 1 = .ok (.getfield 36, 3) := by decide +kernel
theorem d5_requestsClash_4 : decode b5_requestsClash 4 = .ok (.getfield 240, 3) := by decide +kernel
theorem d5_requestsClash_7 : decode b5_requestsClash 7 = .ok (.iload_n 1, 1) := by decide +kernel
theorem d5_requestsClash_8 : decode b5_requestsClash 8 = .ok (.baload, 1) := by decide +kernel
theorem d5_requestsClash_9 : decode b5_requestsClash 9 = .ok (.aload_n 0, 1) := by decide +kernel
theorem d5_requestsClash_10 : decode b5_requestsClash 10 = .ok (.getfield 36, 3) := by decide +kernel
theorem d5_requestsClash_13 : decode b5_requestsClash 13 = .ok (.getfield 240, 3) := by decide +kernel
theorem d5_requestsClash_16 : decode b5_requestsClash 16 = .ok (.iload_n 2, 1) := by decide +kernel
theorem d5_requestsClash_17 : decode b5_requestsClash 17 = .ok (.baload, 1) := by decide +kernel
theorem d5_requestsClash_18 : decode b5_requestsClash 18 = .ok (.if_icmp .ne 7, 3) := by decide +kernel
theorem d5_requestsClash_21 : decode b5_requestsClash 21 = .ok (.iconst 1, 1) := by decide +kernel
theorem d5_requestsClash_22 : decode b5_requestsClash 22 = .ok (.goto 4, 3) := by decide +kernel
theorem d5_requestsClash_25 : decode b5_requestsClash 25 = .ok (.iconst 0, 1) := by decide +kernel
theorem d5_requestsClash_26 : decode b5_requestsClash 26 = .ok (.istore_n 3, 1) := by decide +kernel
theorem d5_requestsClash_27 : decode b5_requestsClash 27 = .ok (.aload_n 0, 1) := by decide +kernel
theorem d5_requestsClash_28 : decode b5_requestsClash 28 = .ok (.getfield 36, 3) := by decide +kernel
theorem d5_requestsClash_31 : decode b5_requestsClash 31 = .ok (.getfield 243, 3) := by decide +kernel
theorem d5_requestsClash_34 : decode b5_requestsClash 34 = .ok (.iload_n 1, 1) := by decide +kernel
theorem d5_requestsClash_35 : decode b5_requestsClash 35 = .ok (.iaload, 1) := by decide +kernel
theorem d5_requestsClash_36 : decode b5_requestsClash 36 = .ok (.istore 4, 2) := by decide +kernel
theorem d5_requestsClash_38 : decode b5_requestsClash 38 = .ok (.iload 4, 2) := by decide +kernel
theorem d5_requestsClash_40 : decode b5_requestsClash 40 = .ok (.aload_n 0, 1) := by decide +kernel
theorem d5_requestsClash_41 : decode b5_requestsClash 41 = .ok (.aload_n 0, 1) := by decide +kernel
theorem d5_requestsClash_42 : decode b5_requestsClash 42 = .ok (.getfield 36, 3) := by decide +kernel
theorem d5_requestsClash_45 : decode b5_requestsClash 45 = .ok (.getfield 237, 3) := by decide +kernel
theorem d5_requestsClash_48 : decode b5_requestsClash 48 = .ok (.iload_n 1, 1) := by decide +kernel
theorem d5_requestsClash_49 : decode b5_requestsClash 49 = .ok (.iaload, 1) := by decide +kernel
theorem d5_requestsClash_50 : decode b5_requestsClash 50 = .ok (.invokevirtual 139, 3) := by decide +kernel
theorem d5_requestsClash_53 : decode b5_requestsClash 53 = .ok (.iadd, 1) := by decide +kernel
theorem d5_requestsClash_54 : decode b5_requestsClash 54 = .ok (.istore 5, 2) := by decide +kernel
theorem d5_requestsClash_56 : decode b5_requestsClash 56 = .ok (.aload_n 0, 1) := by decide +kernel
theorem d5_requestsClash_57 : decode b5_requestsClash 57 = .ok (.getfield 36, 3) := by decide +kernel
theorem d5_requestsClash_60 : decode b5_requestsClash 60 = .ok (.getfield 243, 3) := by decide +kernel
theorem d5_requestsClash_63 : decode b5_requestsClash 63 = .ok (.iload_n 2, 1) := by decide +kernel
theorem d5_requestsClash_64 : decode b5_requestsClash 64 = .ok (.iaload, 1) := by decide +kernel
theorem d5_requestsClash_65 : decode b5_requestsClash 65 = .ok (.istore 6, 2) := by decide +kernel
theorem d5_requestsClash_67 : decode b5_requestsClash 67 = .ok (.aload_n 0, 1) := by decide +kernel
theorem d5_requestsClash_68 : decode b5_requestsClash 68 = .ok (.aload_n 0, 1) := by decide +kernel
theorem d5_requestsClash_69 : decode b5_requestsClash 69 = .ok (.getfield 36, 3) := by decide +kernel
theorem d5_requestsClash_72 : decode b5_requestsClash 72 = .ok (.getfield 237, 3) := by decide +kernel
theorem d5_requestsClash_75 : decode b5_requestsClash 75 = .ok (.iload_n 2, 1) := by decide +kernel
theorem d5_requestsClash_76 : decode b5_requestsClash 76 = .ok (.iaload, 1) := by decide +kernel
theorem d5_requestsClash_77 : decode b5_requestsClash 77 = .ok (.invokevirtual 139, 3) := by decide +kernel
theorem d5_requestsClash_80 : decode b5_requestsClash 80 = .ok (.istore 7, 2) := by decide +kernel
theorem d5_requestsClash_82 : decode b5_requestsClash 82 = .ok (.iload 6, 2) := by decide +kernel
theorem d5_requestsClash_84 : decode b5_requestsClash 84 = .ok (.aload_n 0, 1) := by decide +kernel
theorem d5_requestsClash_85 : decode b5_requestsClash 85 = .ok (.iload 4, 2) := by decide +kernel
theorem d5_requestsClash_87 : decode b5_requestsClash 87 = .ok (.iload 5, 2) := by decide +kernel
theorem d5_requestsClash_89 : decode b5_requestsClash 89 = .ok (.iload_n 3, 1) := by decide +kernel
theorem d5_requestsClash_90 : decode b5_requestsClash 90 = .ok (.iload 7, 2) := by decide +kernel
theorem d5_requestsClash_92 : decode b5_requestsClash 92 = .ok (.invokevirtual 224, 3) := by decide +kernel
theorem d5_requestsClash_95 : decode b5_requestsClash 95 = .ok (.if_icmp .le 23, 3) := by decide +kernel
theorem d5_requestsClash_98 : decode b5_requestsClash 98 = .ok (.iload 6, 2) := by decide +kernel
theorem d5_requestsClash_100 : decode b5_requestsClash 100 = .ok (.aload_n 0, 1) := by decide +kernel
theorem d5_requestsClash_101 : decode b5_requestsClash 101 = .ok (.iload 4, 2) := by decide +kernel
theorem d5_requestsClash_103 : decode b5_requestsClash 103 = .ok (.iload 5, 2) := by decide +kernel
theorem d5_requestsClash_105 : decode b5_requestsClash 105 = .ok (.iload_n 3, 1) := by decide +kernel
theorem d5_requestsClash_106 : decode b5_requestsClash 106 = .ok (.iload 7, 2) := by decide +kernel
theorem d5_requestsClash_108 : decode b5_requestsClash 108 = .ok (.invokevirtual 351, 3) := by decide +kernel
theorem d5_requestsClash_111 : decode b5_requestsClash 111 = .ok (.if_icmp .ge 7, 3) := by decide +kernel
theorem d5_requestsClash_114 : decode b5_requestsClash 114 = .ok (.iconst 1, 1) := by decide +kernel
theorem d5_requestsClash_115 : decode b5_requestsClash 115 = .ok (.goto 4, 3) := by decide +kernel
theorem d5_requestsClash_118 : decode b5_requestsClash 118 = .ok (.iconst 0, 1) := by decide +kernel
theorem d5_requestsClash_119 : decode b5_requestsClash 119 = .ok (.ireturn, 1) := by decide +kernel
abbrev b5_bookFault : ByteArray := prog_1_method_95_code
def y5_bookFault : MethodName := ⟨"ChannelSchedule", "bookFault", "(IZI)I"⟩
theorem w5_bookFault : YV y5_bookFault b5_bookFault 5 (some .int) 3 := ⟨LW_i 1090 (by decide +kernel) (by decide +kernel), LW_i 32 (by decide +kernel) (by decide +kernel), LW_i 110 (by decide +kernel) (by decide +kernel), LW_i 1091 (by decide +kernel) (by decide +kernel), by decide +kernel, by decide +kernel⟩
theorem d5_bookFault_0 : decode b5_bookFault 0 = .ok (.aload_n 0, 1) := by decide +kernel
theorem d5_bookFault_1 : decode b5_bookFault 1 = .ok (.iload_n 1, 1) := by decide +kernel
theorem d5_bookFault_2 : decode b5_bookFault 2 = .ok (.invokevirtual 132, 3) := by decide +kernel
theorem d5_bookFault_5 : decode b5_bookFault 5 = .ok (.ifCond .ne 5, 3) := by decide +kernel
theorem d5_bookFault_8 : decode b5_bookFault 8 = .ok (.iconst 1, 1) := by decide +kernel
theorem d5_bookFault_9 : decode b5_bookFault 9 = .ok (.ireturn, 1) := by decide +kernel
theorem d5_bookFault_10 : decode b5_bookFault 10 = .ok (.iload_n 3, 1) := by decide +kernel
theorem d5_bookFault_11 : decode b5_bookFault 11 = .ok (.iconst 0, 1) := by decide +kernel
theorem d5_bookFault_12 : decode b5_bookFault 12 = .ok (.sipush 999, 3) := by decide +kernel
theorem d5_bookFault_15 : decode b5_bookFault 15 = .ok (.invokestatic 104, 3) := by decide +kernel
theorem d5_bookFault_18 : decode b5_bookFault 18 = .ok (.ifCond .ne 5, 3) := by decide +kernel
theorem d5_bookFault_21 : decode b5_bookFault 21 = .ok (.iconst 2, 1) := by decide +kernel
theorem d5_bookFault_22 : decode b5_bookFault 22 = .ok (.ireturn, 1) := by decide +kernel
theorem d5_bookFault_23 : decode b5_bookFault 23 = .ok (.iload_n 3, 1) := by decide +kernel
theorem d5_bookFault_24 : decode b5_bookFault 24 = .ok (.aload_n 0, 1) := by decide +kernel
theorem d5_bookFault_25 : decode b5_bookFault 25 = .ok (.getfield 36, 3) := by decide +kernel
theorem d5_bookFault_28 : decode b5_bookFault 28 = .ok (.getfield 129, 3) := by decide +kernel
theorem d5_bookFault_31 : decode b5_bookFault 31 = .ok (.if_icmp .lt 35, 3) := by decide +kernel
theorem d5_bookFault_34 : decode b5_bookFault 34 = .ok (.aload_n 0, 1) := by decide +kernel
theorem d5_bookFault_35 : decode b5_bookFault 35 = .ok (.getfield 36, 3) := by decide +kernel
theorem d5_bookFault_38 : decode b5_bookFault 38 = .ok (.getfield 175, 3) := by decide +kernel
theorem d5_bookFault_41 : decode b5_bookFault 41 = .ok (.bipush 20, 2) := by decide +kernel
theorem d5_bookFault_43 : decode b5_bookFault 43 = .ok (.if_icmp .ge 23, 3) := by decide +kernel
theorem d5_bookFault_46 : decode b5_bookFault 46 = .ok (.aload_n 0, 1) := by decide +kernel
theorem d5_bookFault_47 : decode b5_bookFault 47 = .ok (.iload_n 2, 1) := by decide +kernel
theorem d5_bookFault_48 : decode b5_bookFault 48 = .ok (.iload_n 3, 1) := by decide +kernel
theorem d5_bookFault_49 : decode b5_bookFault 49 = .ok (.aload_n 0, 1) := by decide +kernel
theorem d5_bookFault_50 : decode b5_bookFault 50 = .ok (.iload_n 1, 1) := by decide +kernel
theorem d5_bookFault_51 : decode b5_bookFault 51 = .ok (.invokevirtual 139, 3) := by decide +kernel
theorem d5_bookFault_54 : decode b5_bookFault 54 = .ok (.iconst (-1), 1) := by decide +kernel
theorem d5_bookFault_55 : decode b5_bookFault 55 = .ok (.invokevirtual 209, 3) := by decide +kernel
theorem d5_bookFault_58 : decode b5_bookFault 58 = .ok (.iconst (-1), 1) := by decide +kernel
theorem d5_bookFault_59 : decode b5_bookFault 59 = .ok (.if_icmp .ne 7, 3) := by decide +kernel
theorem d5_bookFault_62 : decode b5_bookFault 62 = .ok (.iconst 1, 1) := by decide +kernel
theorem d5_bookFault_63 : decode b5_bookFault 63 = .ok (.goto 4, 3) := by decide +kernel
theorem d5_bookFault_66 : decode b5_bookFault 66 = .ok (.iconst 0, 1) := by decide +kernel
theorem d5_bookFault_67 : decode b5_bookFault 67 = .ok (.istore 4, 2) := by decide +kernel
theorem d5_bookFault_69 : decode b5_bookFault 69 = .ok (.iload 4, 2) := by decide +kernel
theorem d5_bookFault_71 : decode b5_bookFault 71 = .ok (.ifCond .eq 7, 3) := by decide +kernel
theorem d5_bookFault_74 : decode b5_bookFault 74 = .ok (.iconst 0, 1) := by decide +kernel
theorem d5_bookFault_75 : decode b5_bookFault 75 = .ok (.goto 4, 3) := by decide +kernel
theorem d5_bookFault_78 : decode b5_bookFault 78 = .ok (.iconst 3, 1) := by decide +kernel
theorem d5_bookFault_79 : decode b5_bookFault 79 = .ok (.ireturn, 1) := by decide +kernel
abbrev b5_bookNow : ByteArray := prog_1_method_96_code
def y5_bookNow : MethodName := ⟨"ChannelSchedule", "bookNow", "(IZI)I"⟩
theorem w5_bookNow : YV y5_bookNow b5_bookNow 5 (some .int) 3 := ⟨LW_i 1068 (by decide +kernel) (by decide +kernel), LW_i 31 (by decide +kernel) (by decide +kernel), LW_i 110 (by decide +kernel) (by decide +kernel), LW_i 1069 (by decide +kernel) (by decide +kernel), by decide +kernel, by decide +kernel⟩
theorem d5_bookNow_0 : decode b5_bookNow 0 = .ok (.iload_n 3, 1) := by decide +kernel
theorem d5_bookNow_1 : decode b5_bookNow 1 = .ok (.aload_n 0, 1) := by decide +kernel
theorem d5_bookNow_2 : decode b5_bookNow 2 = .ok (.iload_n 1, 1) := by decide +kernel
theorem d5_bookNow_3 : decode b5_bookNow 3 = .ok (.invokevirtual 139, 3) := by decide +kernel
theorem d5_bookNow_6 : decode b5_bookNow 6 = .ok (.iadd, 1) := by decide +kernel
theorem d5_bookNow_7 : decode b5_bookNow 7 = .ok (.istore 4, 2) := by decide +kernel
theorem d5_bookNow_9 : decode b5_bookNow 9 = .ok (.aload_n 0, 1) := by decide +kernel
theorem d5_bookNow_10 : decode b5_bookNow 10 = .ok (.getfield 36, 3) := by decide +kernel
theorem d5_bookNow_13 : decode b5_bookNow 13 = .ok (.iload_n 1, 1) := by decide +kernel
theorem d5_bookNow_14 : decode b5_bookNow 14 = .ok (.iload_n 2, 1) := by decide +kernel
theorem d5_bookNow_15 : decode b5_bookNow 15 = .ok (.iload_n 3, 1) := by decide +kernel
theorem d5_bookNow_16 : decode b5_bookNow 16 = .ok (.iload 4, 2) := by decide +kernel
theorem d5_bookNow_18 : decode b5_bookNow 18 = .ok (.invokevirtual 366, 3) := by decide +kernel
theorem d5_bookNow_21 : decode b5_bookNow 21 = .ok (.aload_n 0, 1) := by decide +kernel
theorem d5_bookNow_22 : decode b5_bookNow 22 = .ok (.getfield 36, 3) := by decide +kernel
theorem d5_bookNow_25 : decode b5_bookNow 25 = .ok (.dup, 1) := by decide +kernel
theorem d5_bookNow_26 : decode b5_bookNow 26 = .ok (.getfield 268, 3) := by decide +kernel
theorem d5_bookNow_29 : decode b5_bookNow 29 = .ok (.iconst 1, 1) := by decide +kernel
theorem d5_bookNow_30 : decode b5_bookNow 30 = .ok (.iadd, 1) := by decide +kernel
theorem d5_bookNow_31 : decode b5_bookNow 31 = .ok (.putfield 268, 3) := by decide +kernel
theorem d5_bookNow_34 : decode b5_bookNow 34 = .ok (.iload 4, 2) := by decide +kernel
theorem d5_bookNow_36 : decode b5_bookNow 36 = .ok (.ireturn, 1) := by decide +kernel
abbrev b5_requestFault : ByteArray := prog_1_method_97_code
def y5_requestFault : MethodName := ⟨"ChannelSchedule", "requestFault", "(IZII)I"⟩
theorem w5_requestFault : YV y5_requestFault b5_requestFault 6 (some .int) 4 := ⟨LW_i 1108 (by decide +kernel) (by decide +kernel), LW_i 34 (by decide +kernel) (by decide +kernel), LW_i 110 (by decide +kernel) (by decide +kernel), LW_i 1109 (by decide +kernel) (by decide +kernel), by decide +kernel, by decide +kernel⟩
theorem d5_requestFault_0 : decode b5_requestFault 0 = .ok (.aload_n 0, 1) := by decide +kernel
theorem d5_requestFault_1 : decode b5_requestFault 1 = .ok (.iload_n 1, 1) := by decide +kernel
theorem d5_requestFault_2 : decode b5_requestFault 2 = .ok (.invokevirtual 132, 3) := by decide +kernel
theorem d5_requestFault_5 : decode b5_requestFault 5 = .ok (.ifCond .ne 5, 3) := by decide +kernel
theorem d5_requestFault_8 : decode b5_requestFault 8 = .ok (.iconst 1, 1) := by decide +kernel
theorem d5_requestFault_9 : decode b5_requestFault 9 = .ok (.ireturn, 1) := by decide +kernel
theorem d5_requestFault_10 : decode b5_requestFault 10 = .ok (.iload_n 3, 1) := by decide +kernel
theorem d5_requestFault_11 : decode b5_requestFault 11 = .ok (.iconst 0, 1) := by decide +kernel
theorem d5_requestFault_12 : decode b5_requestFault 12 = .ok (.sipush 999, 3) := by decide +kernel
theorem d5_requestFault_15 : decode b5_requestFault 15 = .ok (.invokestatic 104, 3) := by decide +kernel
theorem d5_requestFault_18 : decode b5_requestFault 18 = .ok (.ifCond .eq 15, 3) := by decide +kernel
theorem d5_requestFault_21 : decode b5_requestFault 21 = .ok (.iload 4, 2) := by decide +kernel
theorem d5_requestFault_23 : decode b5_requestFault 23 = .ok (.iload_n 3, 1) := by decide +kernel
theorem d5_requestFault_24 : decode b5_requestFault 24 = .ok (.sipush 999, 3) := by decide +kernel
theorem d5_requestFault_27 : decode b5_requestFault 27 = .ok (.invokestatic 104, 3) := by decide +kernel
theorem d5_requestFault_30 : decode b5_requestFault 30 = .ok (.ifCond .ne 5, 3) := by decide +kernel
theorem d5_requestFault_33 : decode b5_requestFault 33 = .ok (.iconst 2, 1) := by decide +kernel
theorem d5_requestFault_34 : decode b5_requestFault 34 = .ok (.ireturn, 1) := by decide +kernel
theorem d5_requestFault_35 : decode b5_requestFault 35 = .ok (.aload_n 0, 1) := by decide +kernel
theorem d5_requestFault_36 : decode b5_requestFault 36 = .ok (.getfield 36, 3) := by decide +kernel
theorem d5_requestFault_39 : decode b5_requestFault 39 = .ok (.getfield 231, 3) := by decide +kernel
theorem d5_requestFault_42 : decode b5_requestFault 42 = .ok (.bipush 8, 2) := by decide +kernel
theorem d5_requestFault_44 : decode b5_requestFault 44 = .ok (.if_icmp .lt 16, 3) := by decide +kernel
theorem d5_requestFault_47 : decode b5_requestFault 47 = .ok (.aload_n 0, 1) := by decide +kernel
theorem d5_requestFault_48 : decode b5_requestFault 48 = .ok (.iload_n 1, 1) := by decide +kernel
theorem d5_requestFault_49 : decode b5_requestFault 49 = .ok (.iload_n 2, 1) := by decide +kernel
theorem d5_requestFault_50 : decode b5_requestFault 50 = .ok (.iload_n 3, 1) := by decide +kernel
theorem d5_requestFault_51 : decode b5_requestFault 51 = .ok (.iload 4, 2) := by decide +kernel
theorem d5_requestFault_53 : decode b5_requestFault 53 = .ok (.invokevirtual 354, 3) := by decide +kernel
theorem d5_requestFault_56 : decode b5_requestFault 56 = .ok (.iconst (-1), 1) := by decide +kernel
theorem d5_requestFault_57 : decode b5_requestFault 57 = .ok (.if_icmp .eq 7, 3) := by decide +kernel
theorem d5_requestFault_60 : decode b5_requestFault 60 = .ok (.iconst 1, 1) := by decide +kernel
theorem d5_requestFault_61 : decode b5_requestFault 61 = .ok (.goto 4, 3) := by decide +kernel
theorem d5_requestFault_64 : decode b5_requestFault 64 = .ok (.iconst 0, 1) := by decide +kernel
theorem d5_requestFault_65 : decode b5_requestFault 65 = .ok (.istore 5, 2) := by decide +kernel
theorem d5_requestFault_67 : decode b5_requestFault 67 = .ok (.iload 5, 2) := by decide +kernel
theorem d5_requestFault_69 : decode b5_requestFault 69 = .ok (.ifCond .eq 7, 3) := by decide +kernel
theorem d5_requestFault_72 : decode b5_requestFault 72 = .ok (.iconst 0, 1) := by decide +kernel
theorem d5_requestFault_73 : decode b5_requestFault 73 = .ok (.goto 4, 3) := by decide +kernel
theorem d5_requestFault_76 : decode b5_requestFault 76 = .ok (.iconst 3, 1) := by decide +kernel
theorem d5_requestFault_77 : decode b5_requestFault 77 = .ok (.ireturn, 1) := by decide +kernel
abbrev b5_requestNow : ByteArray := prog_1_method_98_code
def y5_requestNow : MethodName := ⟨"ChannelSchedule", "requestNow", "(IZII)I"⟩
theorem w5_requestNow : YV y5_requestNow b5_requestNow 6 (some .int) 4 := ⟨LW_i 1112 (by decide +kernel) (by decide +kernel), LW_i 35 (by decide +kernel) (by decide +kernel), LW_i 110 (by decide +kernel) (by decide +kernel), LW_i 1113 (by decide +kernel) (by decide +kernel), by decide +kernel, by decide +kernel⟩
theorem d5_requestNow_0 : decode b5_requestNow 0 = .ok (.aload_n 0, 1) := by decide +kernel
theorem d5_requestNow_1 : decode b5_requestNow 1 = .ok (.iload_n 1, 1) := by decide +kernel
theorem d5_requestNow_2 : decode b5_requestNow 2 = .ok (.iload_n 2, 1) := by decide +kernel
theorem d5_requestNow_3 : decode b5_requestNow 3 = .ok (.iload_n 3, 1) := by decide +kernel
theorem d5_requestNow_4 : decode b5_requestNow 4 = .ok (.iload 4, 2) := by decide +kernel
theorem d5_requestNow_6 : decode b5_requestNow 6 = .ok (.invokevirtual 354, 3) := by decide +kernel
theorem d5_requestNow_9 : decode b5_requestNow 9 = .ok (.istore 5, 2) := by decide +kernel
theorem d5_requestNow_11 : decode b5_requestNow 11 = .ok (.iload 5, 2) := by decide +kernel
theorem d5_requestNow_13 : decode b5_requestNow 13 = .ok (.iconst (-1), 1) := by decide +kernel
theorem d5_requestNow_14 : decode b5_requestNow 14 = .ok (.if_icmp .ne 18, 3) := by decide +kernel
theorem d5_requestNow_17 : decode b5_requestNow 17 = .ok (.aload_n 0, 1) := by decide +kernel
theorem d5_requestNow_18 : decode b5_requestNow 18 = .ok (.getfield 36, 3) := by decide +kernel
theorem d5_requestNow_21 : decode b5_requestNow 21 = .ok (.iload_n 1, 1) := by decide +kernel
theorem d5_requestNow_22 : decode b5_requestNow 22 = .ok (.iload_n 2, 1) := by decide +kernel
theorem d5_requestNow_23 : decode b5_requestNow 23 = .ok (.iload_n 3, 1) := by decide +kernel
theorem d5_requestNow_24 : decode b5_requestNow 24 = .ok (.iload 4, 2) := by decide +kernel
theorem d5_requestNow_26 : decode b5_requestNow 26 = .ok (.invokevirtual 370, 3) := by decide +kernel
theorem d5_requestNow_29 : decode b5_requestNow 29 = .ok (.goto 12, 3) := by decide +kernel
theorem d5_requestNow_32 : decode b5_requestNow 32 = .ok (.aload_n 0, 1) := by decide +kernel
theorem d5_requestNow_33 : decode b5_requestNow 33 = .ok (.iload_n 1, 1) := by decide +kernel
theorem d5_requestNow_34 : decode b5_requestNow 34 = .ok (.iload_n 2, 1) := by decide +kernel
theorem d5_requestNow_35 : decode b5_requestNow 35 = .ok (.iload 5, 2) := by decide +kernel
theorem d5_requestNow_37 : decode b5_requestNow 37 = .ok (.invokevirtual 287, 3) := by decide +kernel
theorem d5_requestNow_40 : decode b5_requestNow 40 = .ok (.pop, 1) := by decide +kernel
theorem d5_requestNow_41 : decode b5_requestNow 41 = .ok (.iload 5, 2) := by decide +kernel
theorem d5_requestNow_43 : decode b5_requestNow 43 = .ok (.ireturn, 1) := by decide +kernel
abbrev b5_cancelFault : ByteArray := prog_1_method_99_code
def y5_cancelFault : MethodName := ⟨"ChannelSchedule", "cancelFault", "(I)I"⟩
theorem w5_cancelFault : YV y5_cancelFault b5_cancelFault 2 (some .int) 1 := ⟨LW_i 1127 (by decide +kernel) (by decide +kernel), LW_i 36 (by decide +kernel) (by decide +kernel), LW_i 110 (by decide +kernel) (by decide +kernel), LW_i 1128 (by decide +kernel) (by decide +kernel), by decide +kernel, by decide +kernel⟩
theorem d5_cancelFault_0 : decode b5_cancelFault 0 = .ok (.aload_n 0, 1) := by decide +kernel
theorem d5_cancelFault_1 : decode b5_cancelFault 1 = .ok (.iload_n 1, 1) := by decide +kernel
theorem d5_cancelFault_2 : decode b5_cancelFault 2 = .ok (.invokevirtual 178, 3) := by decide +kernel
theorem d5_cancelFault_5 : decode b5_cancelFault 5 = .ok (.ifCond .ne 5, 3) := by decide +kernel
theorem d5_cancelFault_8 : decode b5_cancelFault 8 = .ok (.iconst 1, 1) := by decide +kernel
theorem d5_cancelFault_9 : decode b5_cancelFault 9 = .ok (.ireturn, 1) := by decide +kernel
theorem d5_cancelFault_10 : decode b5_cancelFault 10 = .ok (.aload_n 0, 1) := by decide +kernel
theorem d5_cancelFault_11 : decode b5_cancelFault 11 = .ok (.getfield 36, 3) := by decide +kernel
theorem d5_cancelFault_14 : decode b5_cancelFault 14 = .ok (.getfield 183, 3) := by decide +kernel
theorem d5_cancelFault_17 : decode b5_cancelFault 17 = .ok (.iload_n 1, 1) := by decide +kernel
theorem d5_cancelFault_18 : decode b5_cancelFault 18 = .ok (.iaload, 1) := by decide +kernel
theorem d5_cancelFault_19 : decode b5_cancelFault 19 = .ok (.aload_n 0, 1) := by decide +kernel
theorem d5_cancelFault_20 : decode b5_cancelFault 20 = .ok (.getfield 36, 3) := by decide +kernel
theorem d5_cancelFault_23 : decode b5_cancelFault 23 = .ok (.getfield 129, 3) := by decide +kernel
theorem d5_cancelFault_26 : decode b5_cancelFault 26 = .ok (.if_icmp .gt 7, 3) := by decide +kernel
theorem d5_cancelFault_29 : decode b5_cancelFault 29 = .ok (.iconst 3, 1) := by decide +kernel
theorem d5_cancelFault_30 : decode b5_cancelFault 30 = .ok (.goto 4, 3) := by decide +kernel
theorem d5_cancelFault_33 : decode b5_cancelFault 33 = .ok (.iconst 0, 1) := by decide +kernel
theorem d5_cancelFault_34 : decode b5_cancelFault 34 = .ok (.ireturn, 1) := by decide +kernel
abbrev b5_cancelNow : ByteArray := prog_1_method_100_code
def y5_cancelNow : MethodName := ⟨"ChannelSchedule", "cancelNow", "(I)I"⟩
theorem w5_cancelNow : YV y5_cancelNow b5_cancelNow 2 (some .int) 1 := ⟨LW_i 1052 (by decide +kernel) (by decide +kernel), LW_i 29 (by decide +kernel) (by decide +kernel), LW_i 110 (by decide +kernel) (by decide +kernel), LW_i 1053 (by decide +kernel) (by decide +kernel), by decide +kernel, by decide +kernel⟩
theorem d5_cancelNow_0 : decode b5_cancelNow 0 = .ok (.aload_n 0, 1) := by decide +kernel
theorem d5_cancelNow_1 : decode b5_cancelNow 1 = .ok (.getfield 36, 3) := by decide +kernel
theorem d5_cancelNow_4 : decode b5_cancelNow 4 = .ok (.iload_n 1, 1) := by decide +kernel
theorem d5_cancelNow_5 : decode b5_cancelNow 5 = .ok (.invokevirtual 373, 3) := by decide +kernel
theorem d5_cancelNow_8 : decode b5_cancelNow 8 = .ok (.aload_n 0, 1) := by decide +kernel
theorem d5_cancelNow_9 : decode b5_cancelNow 9 = .ok (.getfield 36, 3) := by decide +kernel
theorem d5_cancelNow_12 : decode b5_cancelNow 12 = .ok (.dup, 1) := by decide +kernel
theorem d5_cancelNow_13 : decode b5_cancelNow 13 = .ok (.getfield 271, 3) := by decide +kernel
theorem d5_cancelNow_16 : decode b5_cancelNow 16 = .ok (.iconst 1, 1) := by decide +kernel
theorem d5_cancelNow_17 : decode b5_cancelNow 17 = .ok (.iadd, 1) := by decide +kernel
theorem d5_cancelNow_18 : decode b5_cancelNow 18 = .ok (.putfield 271, 3) := by decide +kernel
theorem d5_cancelNow_21 : decode b5_cancelNow 21 = .ok (.aload_n 0, 1) := by decide +kernel
theorem d5_cancelNow_22 : decode b5_cancelNow 22 = .ok (.invokevirtual 376, 3) := by decide +kernel
theorem d5_cancelNow_25 : decode b5_cancelNow 25 = .ok (.ireturn, 1) := by decide +kernel
abbrev b5_moveFault : ByteArray := prog_1_method_101_code
def y5_moveFault : MethodName := ⟨"ChannelSchedule", "moveFault", "(II)I"⟩
theorem w5_moveFault : YV y5_moveFault b5_moveFault 3 (some .int) 2 := ⟨LW_i 1138 (by decide +kernel) (by decide +kernel), LW_i 37 (by decide +kernel) (by decide +kernel), LW_i 110 (by decide +kernel) (by decide +kernel), LW_i 1139 (by decide +kernel) (by decide +kernel), by decide +kernel, by decide +kernel⟩
theorem d5_moveFault_0 : decode b5_moveFault 0 = .ok (.aload_n 0, 1) := by decide +kernel
theorem d5_moveFault_1 : decode b5_moveFault 1 = .ok (.iload_n 1, 1) := by decide +kernel
theorem d5_moveFault_2 : decode b5_moveFault 2 = .ok (.invokevirtual 178, 3) := by decide +kernel
theorem d5_moveFault_5 : decode b5_moveFault 5 = .ok (.ifCond .ne 5, 3) := by decide +kernel
theorem d5_moveFault_8 : decode b5_moveFault 8 = .ok (.iconst 1, 1) := by decide +kernel
theorem d5_moveFault_9 : decode b5_moveFault 9 = .ok (.ireturn, 1) := by decide +kernel
theorem d5_moveFault_10 : decode b5_moveFault 10 = .ok (.iload_n 2, 1) := by decide +kernel
theorem d5_moveFault_11 : decode b5_moveFault 11 = .ok (.iconst 0, 1) := by decide +kernel
theorem d5_moveFault_12 : decode b5_moveFault 12 = .ok (.sipush 999, 3) := by decide +kernel
theorem d5_moveFault_15 : decode b5_moveFault 15 = .ok (.invokestatic 104, 3) := by decide +kernel
theorem d5_moveFault_18 : decode b5_moveFault 18 = .ok (.ifCond .ne 5, 3) := by decide +kernel
theorem d5_moveFault_21 : decode b5_moveFault 21 = .ok (.iconst 2, 1) := by decide +kernel
theorem d5_moveFault_22 : decode b5_moveFault 22 = .ok (.ireturn, 1) := by decide +kernel
theorem d5_moveFault_23 : decode b5_moveFault 23 = .ok (.aload_n 0, 1) := by decide +kernel
theorem d5_moveFault_24 : decode b5_moveFault 24 = .ok (.iload_n 1, 1) := by decide +kernel
theorem d5_moveFault_25 : decode b5_moveFault 25 = .ok (.iload_n 2, 1) := by decide +kernel
theorem d5_moveFault_26 : decode b5_moveFault 26 = .ok (.invokevirtual 228, 3) := by decide +kernel
theorem d5_moveFault_29 : decode b5_moveFault 29 = .ok (.ifCond .ne 7, 3) := by decide +kernel
theorem d5_moveFault_32 : decode b5_moveFault 32 = .ok (.iconst 0, 1) := by decide +kernel
theorem d5_moveFault_33 : decode b5_moveFault 33 = .ok (.goto 4, 3) := by decide +kernel
theorem d5_moveFault_36 : decode b5_moveFault 36 = .ok (.iconst 3, 1) := by decide +kernel
theorem d5_moveFault_37 : decode b5_moveFault 37 = .ok (.ireturn, 1) := by decide +kernel
abbrev b5_moveNow : ByteArray := prog_1_method_102_code
def y5_moveNow : MethodName := ⟨"ChannelSchedule", "moveNow", "(II)I"⟩
theorem w5_moveNow : YV y5_moveNow b5_moveNow 6 (some .int) 2 := ⟨LW_i 1142 (by decide +kernel) (by decide +kernel), LW_i 38 (by decide +kernel) (by decide +kernel), LW_i 110 (by decide +kernel) (by decide +kernel), LW_i 1143 (by decide +kernel) (by decide +kernel), by decide +kernel, by decide +kernel⟩
theorem d5_moveNow_0 : decode b5_moveNow 0 = .ok (.aload_n 0, 1) := by decide +kernel
theorem d5_moveNow_1 : decode b5_moveNow 1 = .ok (.getfield 36, 3) := by decide +kernel
theorem d5_moveNow_4 : decode b5_moveNow 4 = .ok (.getfield 181, 3) := by decide +kernel
theorem d5_moveNow_7 : decode b5_moveNow 7 = .ok (.iload_n 1, 1) := by decide +kernel
theorem d5_moveNow_8 : decode b5_moveNow 8 = .ok (.iaload, 1) := by decide +kernel
theorem d5_moveNow_9 : decode b5_moveNow 9 = .ok (.istore_n 3, 1) := by decide +kernel
theorem d5_moveNow_10 : decode b5_moveNow 10 = .ok (.aload_n 0, 1) := by decide +kernel
theorem d5_moveNow_11 : decode b5_moveNow 11 = .ok (.getfield 36, 3) := by decide +kernel
theorem d5_moveNow_14 : decode b5_moveNow 14 = .ok (.getfield 189, 3) := by decide +kernel
theorem d5_moveNow_17 : decode b5_moveNow 17 = .ok (.iload_n 1, 1) := by decide +kernel
theorem d5_moveNow_18 : decode b5_moveNow 18 = .ok (.baload, 1) := by decide +kernel
theorem d5_moveNow_19 : decode b5_moveNow 19 = .ok (.istore 4, 2) := by decide +kernel
theorem d5_moveNow_21 : decode b5_moveNow 21 = .ok (.aload_n 0, 1) := by decide +kernel
theorem d5_moveNow_22 : decode b5_moveNow 22 = .ok (.getfield 36, 3) := by decide +kernel
theorem d5_moveNow_25 : decode b5_moveNow 25 = .ok (.getfield 186, 3) := by decide +kernel
theorem d5_moveNow_28 : decode b5_moveNow 28 = .ok (.iload_n 1, 1) := by decide +kernel
theorem d5_moveNow_29 : decode b5_moveNow 29 = .ok (.iaload, 1) := by decide +kernel
theorem d5_moveNow_30 : decode b5_moveNow 30 = .ok (.aload_n 0, 1) := by decide +kernel
theorem d5_moveNow_31 : decode b5_moveNow 31 = .ok (.getfield 36, 3) := by decide +kernel
theorem d5_moveNow_34 : decode b5_moveNow 34 = .ok (.getfield 183, 3) := by decide +kernel
theorem d5_moveNow_37 : decode b5_moveNow 37 = .ok (.iload_n 1, 1) := by decide +kernel
theorem d5_moveNow_38 : decode b5_moveNow 38 = .ok (.iaload, 1) := by decide +kernel
theorem d5_moveNow_39 : decode b5_moveNow 39 = .ok (.isub, 1) := by decide +kernel
theorem d5_moveNow_40 : decode b5_moveNow 40 = .ok (.istore 5, 2) := by decide +kernel
theorem d5_moveNow_42 : decode b5_moveNow 42 = .ok (.aload_n 0, 1) := by decide +kernel
theorem d5_moveNow_43 : decode b5_moveNow 43 = .ok (.getfield 36, 3) := by decide +kernel
theorem d5_moveNow_46 : decode b5_moveNow 46 = .ok (.iload_n 1, 1) := by decide +kernel
theorem d5_moveNow_47 : decode b5_moveNow 47 = .ok (.invokevirtual 373, 3) := by decide +kernel
theorem d5_moveNow_50 : decode b5_moveNow 50 = .ok (.aload_n 0, 1) := by decide +kernel
theorem d5_moveNow_51 : decode b5_moveNow 51 = .ok (.getfield 36, 3) := by decide +kernel
theorem d5_moveNow_54 : decode b5_moveNow 54 = .ok (.iload_n 3, 1) := by decide +kernel
theorem d5_moveNow_55 : decode b5_moveNow 55 = .ok (.iload 4, 2) := by decide +kernel
theorem d5_moveNow_57 : decode b5_moveNow 57 = .ok (.iload_n 2, 1) := by decide +kernel
theorem d5_moveNow_58 : decode b5_moveNow 58 = .ok (.iload_n 2, 1) := by decide +kernel
theorem d5_moveNow_59 : decode b5_moveNow 59 = .ok (.iload 5, 2) := by decide +kernel
theorem d5_moveNow_61 : decode b5_moveNow 61 = .ok (.iadd, 1) := by decide +kernel
theorem d5_moveNow_62 : decode b5_moveNow 62 = .ok (.invokevirtual 366, 3) := by decide +kernel
theorem d5_moveNow_65 : decode b5_moveNow 65 = .ok (.aload_n 0, 1) := by decide +kernel
theorem d5_moveNow_66 : decode b5_moveNow 66 = .ok (.invokevirtual 376, 3) := by decide +kernel
theorem d5_moveNow_69 : decode b5_moveNow 69 = .ok (.ireturn, 1) := by decide +kernel
abbrev b5_freezeNow : ByteArray := prog_1_method_103_code
def y5_freezeNow : MethodName := ⟨"ChannelSchedule", "freezeNow", "(I)I"⟩
theorem w5_freezeNow : YV y5_freezeNow b5_freezeNow 2 (some .int) 1 := ⟨LW_i 1160 (by decide +kernel) (by decide +kernel), LW_i 39 (by decide +kernel) (by decide +kernel), LW_i 110 (by decide +kernel) (by decide +kernel), LW_i 1161 (by decide +kernel) (by decide +kernel), by decide +kernel, by decide +kernel⟩
theorem d5_freezeNow_0 : decode b5_freezeNow 0 = .ok (.aload_n 0, 1) := by decide +kernel
theorem d5_freezeNow_1 : decode b5_freezeNow 1 = .ok (.getfield 36, 3) := by decide +kernel
theorem d5_freezeNow_4 : decode b5_freezeNow 4 = .ok (.iload_n 1, 1) := by decide +kernel
theorem d5_freezeNow_5 : decode b5_freezeNow 5 = .ok (.putfield 126, 3) := by decide +kernel
theorem d5_freezeNow_8 : decode b5_freezeNow 8 = .ok (.aload_n 0, 1) := by decide +kernel
theorem d5_freezeNow_9 : decode b5_freezeNow 9 = .ok (.invokevirtual 376, 3) := by decide +kernel
theorem d5_freezeNow_12 : decode b5_freezeNow 12 = .ok (.ireturn, 1) := by decide +kernel
abbrev b5_advanceFault : ByteArray := prog_1_method_104_code
def y5_advanceFault : MethodName := ⟨"ChannelSchedule", "advanceFault", "(I)I"⟩
theorem w5_advanceFault : YV y5_advanceFault b5_advanceFault 2 (some .int) 1 := ⟨LW_i 1171 (by decide +kernel) (by decide +kernel), LW_i 40 (by decide +kernel) (by decide +kernel), LW_i 110 (by decide +kernel) (by decide +kernel), LW_i 1172 (by decide +kernel) (by decide +kernel), by decide +kernel, by decide +kernel⟩
theorem d5_advanceFault_0 : decode b5_advanceFault 0 = .ok (.iload_n 1, 1) := by decide +kernel
theorem d5_advanceFault_1 : decode b5_advanceFault 1 = .ok (.iconst 1, 1) := by decide +kernel
theorem d5_advanceFault_2 : decode b5_advanceFault 2 = .ok (.sipush 500, 3) := by decide +kernel
theorem d5_advanceFault_5 : decode b5_advanceFault 5 = .ok (.invokestatic 104, 3) := by decide +kernel
theorem d5_advanceFault_8 : decode b5_advanceFault 8 = .ok (.ifCond .ne 5, 3) := by decide +kernel
theorem d5_advanceFault_11 : decode b5_advanceFault 11 = .ok (.iconst 2, 1) := by decide +kernel
theorem d5_advanceFault_12 : decode b5_advanceFault 12 = .ok (.ireturn, 1) := by decide +kernel
theorem d5_advanceFault_13 : decode b5_advanceFault 13 = .ok (.aload_n 0, 1) := by decide +kernel
theorem d5_advanceFault_14 : decode b5_advanceFault 14 = .ok (.getfield 36, 3) := by decide +kernel
theorem d5_advanceFault_17 : decode b5_advanceFault 17 = .ok (.getfield 129, 3) := by decide +kernel
theorem d5_advanceFault_20 : decode b5_advanceFault 20 = .ok (.iload_n 1, 1) := by decide +kernel
theorem d5_advanceFault_21 : decode b5_advanceFault 21 = .ok (.iadd, 1) := by decide +kernel
theorem d5_advanceFault_22 : decode b5_advanceFault 22 = .ok (.sipush 1200, 3) := by decide +kernel
theorem d5_advanceFault_25 : decode b5_advanceFault 25 = .ok (.if_icmp .le 7, 3) := by decide +kernel
theorem d5_advanceFault_28 : decode b5_advanceFault 28 = .ok (.iconst 3, 1) := by decide +kernel
theorem d5_advanceFault_29 : decode b5_advanceFault 29 = .ok (.goto 4, 3) := by decide +kernel
theorem d5_advanceFault_32 : decode b5_advanceFault 32 = .ok (.iconst 0, 1) := by decide +kernel
theorem d5_advanceFault_33 : decode b5_advanceFault 33 = .ok (.ireturn, 1) := by decide +kernel
abbrev b5_advanceNow : ByteArray := prog_1_method_105_code
def y5_advanceNow : MethodName := ⟨"ChannelSchedule", "advanceNow", "(I)I"⟩
theorem w5_advanceNow : YV y5_advanceNow b5_advanceNow 5 (some .int) 1 := ⟨LW_i 1175 (by decide +kernel) (by decide +kernel), LW_i 41 (by decide +kernel) (by decide +kernel), LW_i 110 (by decide +kernel) (by decide +kernel), LW_i 1176 (by decide +kernel) (by decide +kernel), by decide +kernel, by decide +kernel⟩
theorem d5_advanceNow_0 : decode b5_advanceNow 0 = .ok (.aload_n 0, 1) := by decide +kernel
theorem d5_advanceNow_1 : decode b5_advanceNow 1 = .ok (.getfield 36, 3) := by decide +kernel
theorem d5_advanceNow_4 : decode b5_advanceNow 4 = .ok (.getfield 129, 3) := by decide +kernel
theorem d5_advanceNow_7 : decode b5_advanceNow 7 = .ok (.istore_n 2, 1) := by decide +kernel
theorem d5_advanceNow_8 : decode b5_advanceNow 8 = .ok (.aload_n 0, 1) := by decide +kernel
theorem d5_advanceNow_9 : decode b5_advanceNow 9 = .ok (.getfield 36, 3) := by decide +kernel
theorem d5_advanceNow_12 : decode b5_advanceNow 12 = .ok (.dup, 1) := by decide +kernel
theorem d5_advanceNow_13 : decode b5_advanceNow 13 = .ok (.getfield 129, 3) := by decide +kernel
theorem d5_advanceNow_16 : decode b5_advanceNow 16 = .ok (.iload_n 1, 1) := by decide +kernel
theorem d5_advanceNow_17 : decode b5_advanceNow 17 = .ok (.iadd, 1) := by decide +kernel
theorem d5_advanceNow_18 : decode b5_advanceNow 18 = .ok (.putfield 129, 3) := by decide +kernel
theorem d5_advanceNow_21 : decode b5_advanceNow 21 = .ok (.iconst 0, 1) := by decide +kernel
theorem d5_advanceNow_22 : decode b5_advanceNow 22 = .ok (.istore_n 3, 1) := by decide +kernel
theorem d5_advanceNow_23 : decode b5_advanceNow 23 = .ok (.iconst 0, 1) := by decide +kernel
theorem d5_advanceNow_24 : decode b5_advanceNow 24 = .ok (.istore 4, 2) := by decide +kernel
theorem d5_advanceNow_26 : decode b5_advanceNow 26 = .ok (.iload 4, 2) := by decide +kernel
theorem d5_advanceNow_28 : decode b5_advanceNow 28 = .ok (.aload_n 0, 1) := by decide +kernel
theorem d5_advanceNow_29 : decode b5_advanceNow 29 = .ok (.getfield 36, 3) := by decide +kernel
theorem d5_advanceNow_32 : decode b5_advanceNow 32 = .ok (.getfield 175, 3) := by decide +kernel
theorem d5_advanceNow_35 : decode b5_advanceNow 35 = .ok (.if_icmp .ge 46, 3) := by decide +kernel
theorem d5_advanceNow_38 : decode b5_advanceNow 38 = .ok (.aload_n 0, 1) := by decide +kernel
theorem d5_advanceNow_39 : decode b5_advanceNow 39 = .ok (.getfield 36, 3) := by decide +kernel
theorem d5_advanceNow_42 : decode b5_advanceNow 42 = .ok (.getfield 186, 3) := by decide +kernel
theorem d5_advanceNow_45 : decode b5_advanceNow 45 = .ok (.iload 4, 2) := by decide +kernel
theorem d5_advanceNow_47 : decode b5_advanceNow 47 = .ok (.iaload, 1) := by decide +kernel
theorem d5_advanceNow_48 : decode b5_advanceNow 48 = .ok (.iload_n 2, 1) := by decide +kernel
theorem d5_advanceNow_49 : decode b5_advanceNow 49 = .ok (.if_icmp .le 26, 3) := by decide +kernel
theorem d5_advanceNow_52 : decode b5_advanceNow 52 = .ok (.aload_n 0, 1) := by decide +kernel
theorem d5_advanceNow_53 : decode b5_advanceNow 53 = .ok (.getfield 36, 3) := by decide +kernel
theorem d5_advanceNow_56 : decode b5_advanceNow 56 = .ok (.getfield 186, 3) := by decide +kernel
theorem d5_advanceNow_59 : decode b5_advanceNow 59 = .ok (.iload 4, 2) := by decide +kernel
theorem d5_advanceNow_61 : decode b5_advanceNow 61 = .ok (.iaload, 1) := by decide +kernel
theorem d5_advanceNow_62 : decode b5_advanceNow 62 = .ok (.aload_n 0, 1) := by decide +kernel
theorem d5_advanceNow_63 : decode b5_advanceNow 63 = .ok (.getfield 36, 3) := by decide +kernel
theorem d5_advanceNow_66 : decode b5_advanceNow 66 = .ok (.getfield 129, 3) := by decide +kernel
theorem d5_advanceNow_69 : decode b5_advanceNow 69 = .ok (.if_icmp .gt 6, 3) := by decide +kernel
theorem d5_advanceNow_72 : decode b5_advanceNow 72 = .ok (.iinc 3 1, 3) := by decide +kernel
theorem d5_advanceNow_75 : decode b5_advanceNow 75 = .ok (.iinc 4 1, 3) := by decide +kernel
theorem d5_advanceNow_78 : decode b5_advanceNow 78 = .ok (.goto (-52), 3) := by decide +kernel
theorem d5_advanceNow_81 : decode b5_advanceNow 81 = .ok (.iload_n 3, 1) := by decide +kernel
theorem d5_advanceNow_82 : decode b5_advanceNow 82 = .ok (.ireturn, 1) := by decide +kernel
abbrev b5_remember : ByteArray := prog_1_method_106_code
def y5_remember : MethodName := ⟨"ChannelSchedule", "remember", "()V"⟩
theorem w5_remember : YV y5_remember b5_remember 1 none 0 := ⟨LW_i 1097 (by decide +kernel) (by decide +kernel), LW_i 33 (by decide +kernel) (by decide +kernel), LW_i 110 (by decide +kernel) (by decide +kernel), LW_i 1098 (by decide +kernel) (by decide +kernel), by decide +kernel, by decide +kernel⟩
theorem d5_remember_0 : decode b5_remember 0 = .ok (.aload_n 0, 1) := by decide +kernel
theorem d5_remember_1 : decode b5_remember 1 = .ok (.aload_n 0, 1) := by decide +kernel
theorem d5_remember_2 : decode b5_remember 2 = .ok (.getfield 47, 3) := by decide +kernel
theorem d5_remember_5 : decode b5_remember 5 = .ok (.iconst 5, 1) := by decide +kernel
theorem d5_remember_6 : decode b5_remember 6 = .ok (.if_icmp .ne 7, 3) := by decide +kernel
theorem d5_remember_9 : decode b5_remember 9 = .ok (.iconst 0, 1) := by decide +kernel
theorem d5_remember_10 : decode b5_remember 10 = .ok (.goto 9, 3) := by decide +kernel
theorem d5_remember_13 : decode b5_remember 13 = .ok (.aload_n 0, 1) := by decide +kernel
theorem d5_remember_14 : decode b5_remember 14 = .ok (.getfield 47, 3) := by decide +kernel
theorem d5_remember_17 : decode b5_remember 17 = .ok (.iconst 1, 1) := by decide +kernel
theorem d5_remember_18 : decode b5_remember 18 = .ok (.iadd, 1) := by decide +kernel
theorem d5_remember_19 : decode b5_remember 19 = .ok (.putfield 47, 3) := by decide +kernel
theorem d5_remember_22 : decode b5_remember 22 = .ok (.aload_n 0, 1) := by decide +kernel
theorem d5_remember_23 : decode b5_remember 23 = .ok (.getfield 43, 3) := by decide +kernel
theorem d5_remember_26 : decode b5_remember 26 = .ok (.aload_n 0, 1) := by decide +kernel
theorem d5_remember_27 : decode b5_remember 27 = .ok (.getfield 47, 3) := by decide +kernel
theorem d5_remember_30 : decode b5_remember 30 = .ok (.aaload, 1) := by decide +kernel
theorem d5_remember_31 : decode b5_remember 31 = .ok (.aload_n 0, 1) := by decide +kernel
theorem d5_remember_32 : decode b5_remember 32 = .ok (.getfield 36, 3) := by decide +kernel
theorem d5_remember_35 : decode b5_remember 35 = .ok (.invokevirtual 261, 3) := by decide +kernel
theorem d5_remember_38 : decode b5_remember 38 = .ok (.aload_n 0, 1) := by decide +kernel
theorem d5_remember_39 : decode b5_remember 39 = .ok (.getfield 51, 3) := by decide +kernel
theorem d5_remember_42 : decode b5_remember 42 = .ok (.bipush 6, 2) := by decide +kernel
theorem d5_remember_44 : decode b5_remember 44 = .ok (.if_icmp .ge 13, 3) := by decide +kernel
theorem d5_remember_47 : decode b5_remember 47 = .ok (.aload_n 0, 1) := by decide +kernel
theorem d5_remember_48 : decode b5_remember 48 = .ok (.dup, 1) := by decide +kernel
theorem d5_remember_49 : decode b5_remember 49 = .ok (.getfield 51, 3) := by decide +kernel
theorem d5_remember_52 : decode b5_remember 52 = .ok (.iconst 1, 1) := by decide +kernel
theorem d5_remember_53 : decode b5_remember 53 = .ok (.iadd, 1) := by decide +kernel
theorem d5_remember_54 : decode b5_remember 54 = .ok (.putfield 51, 3) := by decide +kernel
theorem d5_remember_57 : decode b5_remember 57 = .ok (.return_, 1) := by decide +kernel
abbrev b5_readSetup : ByteArray := prog_1_method_107_code
def y5_readSetup : MethodName := ⟨"ChannelSchedule", "readSetup", "()Z"⟩
theorem w5_readSetup : YV y5_readSetup b5_readSetup 2 (some .boolean) 0 := ⟨LW_i 388 (by decide +kernel) (by decide +kernel), LW_i 0 (by decide +kernel) (by decide +kernel), LW_i 110 (by decide +kernel) (by decide +kernel), LW_i 389 (by decide +kernel) (by decide +kernel), by decide +kernel, by decide +kernel⟩
theorem d5_readSetup_0 : decode b5_readSetup 0 = .ok (.aload_n 0, 1) := by decide +kernel
theorem d5_readSetup_1 : decode b5_readSetup 1 = .ok (.getfield 10, 3) := by decide +kernel
theorem d5_readSetup_4 : decode b5_readSetup 4 = .ok (.invokevirtual 379, 3) := by decide +kernel
theorem d5_readSetup_7 : decode b5_readSetup 7 = .ok (.aload_n 0, 1) := by decide +kernel
theorem d5_readSetup_8 : decode b5_readSetup 8 = .ok (.getfield 30, 3) := by decide +kernel
theorem d5_readSetup_11 : decode b5_readSetup 11 = .ok (.iconst 0, 1) := by decide +kernel
theorem d5_readSetup_12 : decode b5_readSetup 12 = .ok (.putfield 111, 3) := by decide +kernel
theorem d5_readSetup_15 : decode b5_readSetup 15 = .ok (.aload_n 0, 1) := by decide +kernel
theorem d5_readSetup_16 : decode b5_readSetup 16 = .ok (.invokevirtual 382, 3) := by decide +kernel
theorem d5_readSetup_19 : decode b5_readSetup 19 = .ok (.ifCond .ne 5, 3) := by decide +kernel
theorem d5_readSetup_22 : decode b5_readSetup 22 = .ok (.iconst 0, 1) := by decide +kernel
theorem d5_readSetup_23 : decode b5_readSetup 23 = .ok (.ireturn, 1) := by decide +kernel
theorem d5_readSetup_24 : decode b5_readSetup 24 = .ok (.iconst 0, 1) := by decide +kernel
theorem d5_readSetup_25 : decode b5_readSetup 25 = .ok (.istore_n 1, 1) := by decide +kernel
theorem d5_readSetup_26 : decode b5_readSetup 26 = .ok (.iload_n 1, 1) := by decide +kernel
theorem d5_readSetup_27 : decode b5_readSetup 27 = .ok (.bipush 10, 2) := by decide +kernel
theorem d5_readSetup_29 : decode b5_readSetup 29 = .ok (.if_icmp .gt 34, 3) := by decide +kernel
theorem d5_readSetup_32 : decode b5_readSetup 32 = .ok (.iload_n 1, 1) := by decide +kernel
theorem d5_readSetup_33 : decode b5_readSetup 33 = .ok (.ifCond .le 15, 3) := by decide +kernel
theorem d5_readSetup_36 : decode b5_readSetup 36 = .ok (.aload_n 0, 1) := by decide +kernel
theorem d5_readSetup_37 : decode b5_readSetup 37 = .ok (.getfield 10, 3) := by decide +kernel
theorem d5_readSetup_40 : decode b5_readSetup 40 = .ok (.getfield 385, 3) := by decide +kernel
theorem d5_readSetup_43 : decode b5_readSetup 43 = .ok (.ifCond .ne 5, 3) := by decide +kernel
theorem d5_readSetup_46 : decode b5_readSetup 46 = .ok (.iconst 1, 1) := by decide +kernel
theorem d5_readSetup_47 : decode b5_readSetup 47 = .ok (.ireturn, 1) := by decide +kernel
theorem d5_readSetup_48 : decode b5_readSetup 48 = .ok (.aload_n 0, 1) := by decide +kernel
theorem d5_readSetup_49 : decode b5_readSetup 49 = .ok (.invokevirtual 388, 3) := by decide +kernel
theorem d5_readSetup_52 : decode b5_readSetup 52 = .ok (.ifCond .ne 5, 3) := by decide +kernel
theorem d5_readSetup_55 : decode b5_readSetup 55 = .ok (.iconst 0, 1) := by decide +kernel
theorem d5_readSetup_56 : decode b5_readSetup 56 = .ok (.ireturn, 1) := by decide +kernel
theorem d5_readSetup_57 : decode b5_readSetup 57 = .ok (.iinc 1 1, 3) := by decide +kernel
theorem d5_readSetup_60 : decode b5_readSetup 60 = .ok (.goto (-34), 3) := by decide +kernel
theorem d5_readSetup_63 : decode b5_readSetup 63 = .ok (.iconst 1, 1) := by decide +kernel
theorem d5_readSetup_64 : decode b5_readSetup 64 = .ok (.ireturn, 1) := by decide +kernel
abbrev b5_readSettings : ByteArray := prog_1_method_108_code
def y5_readSettings : MethodName := ⟨"ChannelSchedule", "readSettings", "()Z"⟩
theorem w5_readSettings : YV y5_readSettings b5_readSettings 1 (some .boolean) 0 := ⟨LW_i 407 (by decide +kernel) (by decide +kernel), LW_i 1 (by decide +kernel) (by decide +kernel), LW_i 110 (by decide +kernel) (by decide +kernel), LW_i 408 (by decide +kernel) (by decide +kernel), by decide +kernel, by decide +kernel⟩
theorem d5_readSettings_0 : decode b5_readSettings 0 = .ok (.aload_n 0, 1) := by decide +kernel
theorem d5_readSettings_1 : decode b5_readSettings 1 = .ok (.getfield 10, 3) := by decide +kernel
theorem d5_readSettings_4 : decode b5_readSettings 4 = .ok (.ldc_w 391, 3) := by decide +kernel
theorem d5_readSettings_7 : decode b5_readSettings 7 = .ok (.invokevirtual 393, 3) := by decide +kernel
theorem d5_readSettings_10 : decode b5_readSettings 10 = .ok (.ifCond .eq 16, 3) := by decide +kernel
theorem d5_readSettings_13 : decode b5_readSettings 13 = .ok (.aload_n 0, 1) := by decide +kernel
theorem d5_readSettings_14 : decode b5_readSettings 14 = .ok (.getfield 10, 3) := by decide +kernel
theorem d5_readSettings_17 : decode b5_readSettings 17 = .ok (.iconst 0, 1) := by decide +kernel
theorem d5_readSettings_18 : decode b5_readSettings 18 = .ok (.bipush 30, 2) := by decide +kernel
theorem d5_readSettings_20 : decode b5_readSettings 20 = .ok (.invokevirtual 397, 3) := by decide +kernel
theorem d5_readSettings_23 : decode b5_readSettings 23 = .ok (.ifCond .ne 5, 3) := by decide +kernel
theorem d5_readSettings_26 : decode b5_readSettings 26 = .ok (.iconst 0, 1) := by decide +kernel
theorem d5_readSettings_27 : decode b5_readSettings 27 = .ok (.ireturn, 1) := by decide +kernel
theorem d5_readSettings_28 : decode b5_readSettings 28 = .ok (.aload_n 0, 1) := by decide +kernel
theorem d5_readSettings_29 : decode b5_readSettings 29 = .ok (.getfield 30, 3) := by decide +kernel
theorem d5_readSettings_32 : decode b5_readSettings 32 = .ok (.aload_n 0, 1) := by decide +kernel
theorem d5_readSettings_33 : decode b5_readSettings 33 = .ok (.getfield 10, 3) := by decide +kernel
theorem d5_readSettings_36 : decode b5_readSettings 36 = .ok (.getfield 400, 3) := by decide +kernel
theorem d5_readSettings_39 : decode b5_readSettings 39 = .ok (.putfield 120, 3) := by decide +kernel
theorem d5_readSettings_42 : decode b5_readSettings 42 = .ok (.aload_n 0, 1) := by decide +kernel
theorem d5_readSettings_43 : decode b5_readSettings 43 = .ok (.getfield 10, 3) := by decide +kernel
theorem d5_readSettings_46 : decode b5_readSettings 46 = .ok (.iconst 0, 1) := by decide +kernel
theorem d5_readSettings_47 : decode b5_readSettings 47 = .ok (.bipush 30, 2) := by decide +kernel
theorem d5_readSettings_49 : decode b5_readSettings 49 = .ok (.invokevirtual 397, 3) := by decide +kernel
theorem d5_readSettings_52 : decode b5_readSettings 52 = .ok (.ifCond .ne 5, 3) := by decide +kernel
theorem d5_readSettings_55 : decode b5_readSettings 55 = .ok (.iconst 0, 1) := by decide +kernel
theorem d5_readSettings_56 : decode b5_readSettings 56 = .ok (.ireturn, 1) := by decide +kernel
theorem d5_readSettings_57 : decode b5_readSettings 57 = .ok (.aload_n 0, 1) := by decide +kernel
theorem d5_readSettings_58 : decode b5_readSettings 58 = .ok (.getfield 30, 3) := by decide +kernel
theorem d5_readSettings_61 : decode b5_readSettings 61 = .ok (.aload_n 0, 1) := by decide +kernel
theorem d5_readSettings_62 : decode b5_readSettings 62 = .ok (.getfield 10, 3) := by decide +kernel
theorem d5_readSettings_65 : decode b5_readSettings 65 = .ok (.getfield 400, 3) := by decide +kernel
theorem d5_readSettings_68 : decode b5_readSettings 68 = .ok (.putfield 123, 3) := by decide +kernel
theorem d5_readSettings_71 : decode b5_readSettings 71 = .ok (.aload_n 0, 1) := by decide +kernel
theorem d5_readSettings_72 : decode b5_readSettings 72 = .ok (.getfield 10, 3) := by decide +kernel
theorem d5_readSettings_75 : decode b5_readSettings 75 = .ok (.iconst 0, 1) := by decide +kernel
theorem d5_readSettings_76 : decode b5_readSettings 76 = .ok (.bipush 9, 2) := by decide +kernel
theorem d5_readSettings_78 : decode b5_readSettings 78 = .ok (.invokevirtual 397, 3) := by decide +kernel
theorem d5_readSettings_81 : decode b5_readSettings 81 = .ok (.ifCond .ne 5, 3) := by decide +kernel
theorem d5_readSettings_84 : decode b5_readSettings 84 = .ok (.iconst 0, 1) := by decide +kernel
theorem d5_readSettings_85 : decode b5_readSettings 85 = .ok (.ireturn, 1) := by decide +kernel
theorem d5_readSettings_86 : decode b5_readSettings 86 = .ok (.aload_n 0, 1) := by decide +kernel
theorem d5_readSettings_87 : decode b5_readSettings 87 = .ok (.getfield 30, 3) := by decide +kernel
theorem d5_readSettings_90 : decode b5_readSettings 90 = .ok (.aload_n 0, 1) := by decide +kernel
theorem d5_readSettings_91 : decode b5_readSettings 91 = .ok (.getfield 10, 3) := by decide +kernel
theorem d5_readSettings_94 : decode b5_readSettings 94 = .ok (.getfield 400, 3) := by decide +kernel
theorem d5_readSettings_97 : decode b5_readSettings 97 = .ok (.putfield 403, 3) := by decide +kernel
theorem d5_readSettings_100 : decode b5_readSettings 100 = .ok (.aload_n 0, 1) := by decide +kernel
theorem d5_readSettings_101 : decode b5_readSettings 101 = .ok (.getfield 10, 3) := by decide +kernel
theorem d5_readSettings_104 : decode b5_readSettings 104 = .ok (.invokevirtual 404, 3) := by decide +kernel
theorem d5_readSettings_107 : decode b5_readSettings 107 = .ok (.ireturn, 1) := by decide +kernel
abbrev b5_readShip : ByteArray := prog_1_method_109_code
def y5_readShip : MethodName := ⟨"ChannelSchedule", "readShip", "()Z"⟩
theorem w5_readShip : YV y5_readShip b5_readShip 2 (some .boolean) 0 := ⟨LW_i 434 (by decide +kernel) (by decide +kernel), LW_i 2 (by decide +kernel) (by decide +kernel), LW_i 110 (by decide +kernel) (by decide +kernel), LW_i 435 (by decide +kernel) (by decide +kernel), by decide +kernel, by decide +kernel⟩
theorem d5_readShip_0 : decode b5_readShip 0 = .ok (.aload_n 0, 1) := by decide +kernel
theorem d5_readShip_1 : decode b5_readShip 1 = .ok (.getfield 10, 3) := by decide +kernel
theorem d5_readShip_4 : decode b5_readShip 4 = .ok (.ldc_w 407, 3) := by decide +kernel
theorem d5_readShip_7 : decode b5_readShip 7 = .ok (.invokevirtual 409, 3) := by decide +kernel
theorem d5_readShip_10 : decode b5_readShip 10 = .ok (.ifCond .eq 24, 3) := by decide +kernel
theorem d5_readShip_13 : decode b5_readShip 13 = .ok (.aload_n 0, 1) := by decide +kernel
theorem d5_readShip_14 : decode b5_readShip 14 = .ok (.getfield 30, 3) := by decide +kernel
theorem d5_readShip_17 : decode b5_readShip 17 = .ok (.getfield 111, 3) := by decide +kernel
theorem d5_readShip_20 : decode b5_readShip 20 = .ok (.bipush 10, 2) := by decide +kernel
theorem d5_readShip_22 : decode b5_readShip 22 = .ok (.if_icmp .ne 12, 3) := by decide +kernel
theorem d5_readShip_25 : decode b5_readShip 25 = .ok (.aload_n 0, 1) := by decide +kernel
theorem d5_readShip_26 : decode b5_readShip 26 = .ok (.getfield 10, 3) := by decide +kernel
theorem d5_readShip_29 : decode b5_readShip 29 = .ok (.iconst 4, 1) := by decide +kernel
theorem d5_readShip_30 : decode b5_readShip 30 = .ok (.invokevirtual 412, 3) := by decide +kernel
theorem d5_readShip_33 : decode b5_readShip 33 = .ok (.ireturn, 1) := by decide +kernel
theorem d5_readShip_34 : decode b5_readShip 34 = .ok (.aload_n 0, 1) := by decide +kernel
theorem d5_readShip_35 : decode b5_readShip 35 = .ok (.getfield 10, 3) := by decide +kernel
theorem d5_readShip_38 : decode b5_readShip 38 = .ok (.ldc_w 407, 3) := by decide +kernel
theorem d5_readShip_41 : decode b5_readShip 41 = .ok (.invokevirtual 393, 3) := by decide +kernel
theorem d5_readShip_44 : decode b5_readShip 44 = .ok (.ifCond .ne 5, 3) := by decide +kernel
theorem d5_readShip_47 : decode b5_readShip 47 = .ok (.iconst 0, 1) := by decide +kernel
theorem d5_readShip_48 : decode b5_readShip 48 = .ok (.ireturn, 1) := by decide +kernel
theorem d5_readShip_49 : decode b5_readShip 49 = .ok (.aload_n 0, 1) := by decide +kernel
theorem d5_readShip_50 : decode b5_readShip 50 = .ok (.getfield 30, 3) := by decide +kernel
theorem d5_readShip_53 : decode b5_readShip 53 = .ok (.getfield 143, 3) := by decide +kernel
theorem d5_readShip_56 : decode b5_readShip 56 = .ok (.aload_n 0, 1) := by decide +kernel
theorem d5_readShip_57 : decode b5_readShip 57 = .ok (.getfield 30, 3) := by decide +kernel
theorem d5_readShip_60 : decode b5_readShip 60 = .ok (.getfield 111, 3) := by decide +kernel
theorem d5_readShip_63 : decode b5_readShip 63 = .ok (.aaload, 1) := by decide +kernel
theorem d5_readShip_64 : decode b5_readShip 64 = .ok (.astore_n 1, 1) := by decide +kernel
theorem d5_readShip_65 : decode b5_readShip 65 = .ok (.aload_n 0, 1) := by decide +kernel
theorem d5_readShip_66 : decode b5_readShip 66 = .ok (.aload_n 1, 1) := by decide +kernel
theorem d5_readShip_67 : decode b5_readShip 67 = .ok (.invokevirtual 415, 3) := by decide +kernel
theorem d5_readShip_70 : decode b5_readShip 70 = .ok (.ifCond .eq 16, 3) := by decide +kernel
theorem d5_readShip_73 : decode b5_readShip 73 = .ok (.aload_n 0, 1) := by decide +kernel
theorem d5_readShip_74 : decode b5_readShip 74 = .ok (.getfield 10, 3) := by decide +kernel
theorem d5_readShip_77 : decode b5_readShip 77 = .ok (.iconst 1, 1) := by decide +kernel
theorem d5_readShip_78 : decode b5_readShip 78 = .ok (.bipush 60, 2) := by decide +kernel
theorem d5_readShip_80 : decode b5_readShip 80 = .ok (.invokevirtual 397, 3) := by decide +kernel
theorem d5_readShip_83 : decode b5_readShip 83 = .ok (.ifCond .ne 5, 3) := by decide +kernel
theorem d5_readShip_86 : decode b5_readShip 86 = .ok (.iconst 0, 1) := by decide +kernel
theorem d5_readShip_87 : decode b5_readShip 87 = .ok (.ireturn, 1) := by decide +kernel
theorem d5_readShip_88 : decode b5_readShip 88 = .ok (.aload_n 1, 1) := by decide +kernel
theorem d5_readShip_89 : decode b5_readShip 89 = .ok (.aload_n 0, 1) := by decide +kernel
theorem d5_readShip_90 : decode b5_readShip 90 = .ok (.getfield 10, 3) := by decide +kernel
theorem d5_readShip_93 : decode b5_readShip 93 = .ok (.getfield 400, 3) := by decide +kernel
theorem d5_readShip_96 : decode b5_readShip 96 = .ok (.putfield 348, 3) := by decide +kernel
theorem d5_readShip_99 : decode b5_readShip 99 = .ok (.aload_n 0, 1) := by decide +kernel
theorem d5_readShip_100 : decode b5_readShip 100 = .ok (.getfield 10, 3) := by decide +kernel
theorem d5_readShip_103 : decode b5_readShip 103 = .ok (.iconst 0, 1) := by decide +kernel
theorem d5_readShip_104 : decode b5_readShip 104 = .ok (.bipush 9, 2) := by decide +kernel
theorem d5_readShip_106 : decode b5_readShip 106 = .ok (.invokevirtual 397, 3) := by decide +kernel
theorem d5_readShip_109 : decode b5_readShip 109 = .ok (.ifCond .ne 5, 3) := by decide +kernel
theorem d5_readShip_112 : decode b5_readShip 112 = .ok (.iconst 0, 1) := by decide +kernel
theorem d5_readShip_113 : decode b5_readShip 113 = .ok (.ireturn, 1) := by decide +kernel
theorem d5_readShip_114 : decode b5_readShip 114 = .ok (.aload_n 1, 1) := by decide +kernel
theorem d5_readShip_115 : decode b5_readShip 115 = .ok (.aload_n 0, 1) := by decide +kernel
theorem d5_readShip_116 : decode b5_readShip 116 = .ok (.getfield 10, 3) := by decide +kernel
theorem d5_readShip_119 : decode b5_readShip 119 = .ok (.getfield 400, 3) := by decide +kernel
theorem d5_readShip_122 : decode b5_readShip 122 = .ok (.putfield 147, 3) := by decide +kernel
theorem d5_readShip_125 : decode b5_readShip 125 = .ok (.aload_n 0, 1) := by decide +kernel
theorem d5_readShip_126 : decode b5_readShip 126 = .ok (.getfield 10, 3) := by decide +kernel
theorem d5_readShip_129 : decode b5_readShip 129 = .ok (.iconst 1, 1) := by decide +kernel
theorem d5_readShip_130 : decode b5_readShip 130 = .ok (.bipush 99, 2) := by decide +kernel
theorem d5_readShip_132 : decode b5_readShip 132 = .ok (.invokevirtual 397, 3) := by decide +kernel
theorem d5_readShip_135 : decode b5_readShip 135 = .ok (.ifCond .ne 5, 3) := by decide +kernel
theorem d5_readShip_138 : decode b5_readShip 138 = .ok (.iconst 0, 1) := by decide +kernel
theorem d5_readShip_139 : decode b5_readShip 139 = .ok (.ireturn, 1) := by decide +kernel
theorem d5_readShip_140 : decode b5_readShip 140 = .ok (.aload_n 1, 1) := by decide +kernel
theorem d5_readShip_141 : decode b5_readShip 141 = .ok (.aload_n 0, 1) := by decide +kernel
theorem d5_readShip_142 : decode b5_readShip 142 = .ok (.getfield 10, 3) := by decide +kernel
theorem d5_readShip_145 : decode b5_readShip 145 = .ok (.getfield 400, 3) := by decide +kernel
theorem d5_readShip_148 : decode b5_readShip 148 = .ok (.putfield 152, 3) := by decide +kernel
theorem d5_readShip_151 : decode b5_readShip 151 = .ok (.aload_n 0, 1) := by decide +kernel
theorem d5_readShip_152 : decode b5_readShip 152 = .ok (.getfield 30, 3) := by decide +kernel
theorem d5_readShip_155 : decode b5_readShip 155 = .ok (.dup, 1) := by decide +kernel
theorem d5_readShip_156 : decode b5_readShip 156 = .ok (.getfield 111, 3) := by decide +kernel
theorem d5_readShip_159 : decode b5_readShip 159 = .ok (.iconst 1, 1) := by decide +kernel
theorem d5_readShip_160 : decode b5_readShip 160 = .ok (.iadd, 1) := by decide +kernel
theorem d5_readShip_161 : decode b5_readShip 161 = .ok (.putfield 111, 3) := by decide +kernel
theorem d5_readShip_164 : decode b5_readShip 164 = .ok (.aload_n 0, 1) := by decide +kernel
theorem d5_readShip_165 : decode b5_readShip 165 = .ok (.getfield 10, 3) := by decide +kernel
theorem d5_readShip_168 : decode b5_readShip 168 = .ok (.invokevirtual 404, 3) := by decide +kernel
theorem d5_readShip_171 : decode b5_readShip 171 = .ok (.ireturn, 1) := by decide +kernel
abbrev b5_readNewName : ByteArray := prog_1_method_110_code
def y5_readNewName : MethodName := ⟨"ChannelSchedule", "readNewName", "(LChannelSchedule$Ship;)Z"⟩
theorem w5_readNewName : YV y5_readNewName b5_readNewName 3 (some .boolean) 1 := ⟨LW_i 441 (by decide +kernel) (by decide +kernel), LW_i 3 (by decide +kernel) (by decide +kernel), LW_i 110 (by decide +kernel) (by decide +kernel), LW_i 442 (by decide +kernel) (by decide +kernel), by decide +kernel, by decide +kernel⟩
theorem d5_readNewName_0 : decode b5_readNewName 0 = .ok (.aload_n 0, 1) := by decide +kernel
theorem d5_readNewName_1 : decode b5_readNewName 1 = .ok (.getfield 10, 3) := by decide +kernel
theorem d5_readNewName_4 : decode b5_readNewName 4 = .ok (.getfield 385, 3) := by decide +kernel
theorem d5_readNewName_7 : decode b5_readNewName 7 = .ok (.iconst 1, 1) := by decide +kernel
theorem d5_readNewName_8 : decode b5_readNewName 8 = .ok (.if_icmp .eq 12, 3) := by decide +kernel
theorem d5_readNewName_11 : decode b5_readNewName 11 = .ok (.aload_n 0, 1) := by decide +kernel
theorem d5_readNewName_12 : decode b5_readNewName 12 = .ok (.getfield 10, 3) := by decide +kernel
theorem d5_readNewName_15 : decode b5_readNewName 15 = .ok (.iconst 1, 1) := by decide +kernel
theorem d5_readNewName_16 : decode b5_readNewName 16 = .ok (.invokevirtual 412, 3) := by decide +kernel
theorem d5_readNewName_19 : decode b5_readNewName 19 = .ok (.ireturn, 1) := by decide +kernel
theorem d5_readNewName_20 : decode b5_readNewName 20 = .ok (.aload_n 0, 1) := by decide +kernel
theorem d5_readNewName_21 : decode b5_readNewName 21 = .ok (.getfield 10, 3) := by decide +kernel
theorem d5_readNewName_24 : decode b5_readNewName 24 = .ok (.getfield 419, 3) := by decide +kernel
theorem d5_readNewName_27 : decode b5_readNewName 27 = .ok (.aload_n 0, 1) := by decide +kernel
theorem d5_readNewName_28 : decode b5_readNewName 28 = .ok (.getfield 10, 3) := by decide +kernel
theorem d5_readNewName_31 : decode b5_readNewName 31 = .ok (.getfield 422, 3) := by decide +kernel
theorem d5_readNewName_34 : decode b5_readNewName 34 = .ok (.isub, 1) := by decide +kernel
theorem d5_readNewName_35 : decode b5_readNewName 35 = .ok (.istore_n 2, 1) := by decide +kernel
theorem d5_readNewName_36 : decode b5_readNewName 36 = .ok (.iload_n 2, 1) := by decide +kernel
theorem d5_readNewName_37 : decode b5_readNewName 37 = .ok (.bipush 6, 2) := by decide +kernel
theorem d5_readNewName_39 : decode b5_readNewName 39 = .ok (.if_icmp .gt 29, 3) := by decide +kernel
theorem d5_readNewName_42 : decode b5_readNewName 42 = .ok (.aload_n 0, 1) := by decide +kernel
theorem d5_readNewName_43 : decode b5_readNewName 43 = .ok (.getfield 30, 3) := by decide +kernel
theorem d5_readNewName_46 : decode b5_readNewName 46 = .ok (.aload_n 0, 1) := by decide +kernel
theorem d5_readNewName_47 : decode b5_readNewName 47 = .ok (.getfield 10, 3) := by decide +kernel
theorem d5_readNewName_50 : decode b5_readNewName 50 = .ok (.getfield 165, 3) := by decide +kernel
theorem d5_readNewName_53 : decode b5_readNewName 53 = .ok (.aload_n 0, 1) := by decide +kernel
theorem d5_readNewName_54 : decode b5_readNewName 54 = .ok (.getfield 10, 3) := by decide +kernel
theorem d5_readNewName_57 : decode b5_readNewName 57 = .ok (.getfield 422, 3) := by decide +kernel
theorem d5_readNewName_60 : decode b5_readNewName 60 = .ok (.iload_n 2, 1) := by decide +kernel
theorem d5_readNewName_61 : decode b5_readNewName 61 = .ok (.invokevirtual 168, 3) := by decide +kernel
theorem d5_readNewName_64 : decode b5_readNewName 64 = .ok (.iconst (-1), 1) := by decide +kernel
theorem d5_readNewName_65 : decode b5_readNewName 65 = .ok (.if_icmp .eq 12, 3) := by decide +kernel
theorem d5_readNewName_68 : decode b5_readNewName 68 = .ok (.aload_n 0, 1) := by decide +kernel
theorem d5_readNewName_69 : decode b5_readNewName 69 = .ok (.getfield 10, 3) := by decide +kernel
theorem d5_readNewName_72 : decode b5_readNewName 72 = .ok (.iconst 3, 1) := by decide +kernel
theorem d5_readNewName_73 : decode b5_readNewName 73 = .ok (.invokevirtual 412, 3) := by decide +kernel
theorem d5_readNewName_76 : decode b5_readNewName 76 = .ok (.ireturn, 1) := by decide +kernel
theorem d5_readNewName_77 : decode b5_readNewName 77 = .ok (.aload_n 1, 1) := by decide +kernel
theorem d5_readNewName_78 : decode b5_readNewName 78 = .ok (.aload_n 0, 1) := by decide +kernel
theorem d5_readNewName_79 : decode b5_readNewName 79 = .ok (.getfield 10, 3) := by decide +kernel
theorem d5_readNewName_82 : decode b5_readNewName 82 = .ok (.getfield 165, 3) := by decide +kernel
theorem d5_readNewName_85 : decode b5_readNewName 85 = .ok (.aload_n 0, 1) := by decide +kernel
theorem d5_readNewName_86 : decode b5_readNewName 86 = .ok (.getfield 10, 3) := by decide +kernel
theorem d5_readNewName_89 : decode b5_readNewName 89 = .ok (.getfield 422, 3) := by decide +kernel
theorem d5_readNewName_92 : decode b5_readNewName 92 = .ok (.iload_n 2, 1) := by decide +kernel
theorem d5_readNewName_93 : decode b5_readNewName 93 = .ok (.invokevirtual 425, 3) := by decide +kernel
theorem d5_readNewName_96 : decode b5_readNewName 96 = .ok (.aload_n 0, 1) := by decide +kernel
theorem d5_readNewName_97 : decode b5_readNewName 97 = .ok (.getfield 10, 3) := by decide +kernel
theorem d5_readNewName_100 : decode b5_readNewName 100 = .ok (.invokevirtual 429, 3) := by decide +kernel
theorem d5_readNewName_103 : decode b5_readNewName 103 = .ok (.iconst 1, 1) := by decide +kernel
theorem d5_readNewName_104 : decode b5_readNewName 104 = .ok (.ireturn, 1) := by decide +kernel
abbrev b5_startWithDraft : ByteArray := prog_1_method_111_code
def y5_startWithDraft : MethodName := ⟨"ChannelSchedule", "startWithDraft", "()V"⟩
theorem w5_startWithDraft : YV y5_startWithDraft b5_startWithDraft 3 none 0 := ⟨LW_i 458 (by decide +kernel) (by decide +kernel), LW_i 4 (by decide +kernel) (by decide +kernel), LW_i 110 (by decide +kernel) (by decide +kernel), LW_i 459 (by decide +kernel) (by decide +kernel), by decide +kernel, by decide +kernel⟩
theorem d5_startWithDraft_0 : decode b5_startWithDraft 0 = .ok (.aload_n 0, 1) := by decide +kernel
theorem d5_startWithDraft_1 : decode b5_startWithDraft 1 = .ok (.getfield 26, 3) := by decide +kernel
theorem d5_startWithDraft_4 : decode b5_startWithDraft 4 = .ok (.astore_n 1, 1) := by decide +kernel
theorem d5_startWithDraft_5 : decode b5_startWithDraft 5 = .ok (.aload_n 0, 1) := by decide +kernel
theorem d5_startWithDraft_6 : decode b5_startWithDraft 6 = .ok (.aload_n 0, 1) := by decide +kernel
theorem d5_startWithDraft_7 : decode b5_startWithDraft 7 = .ok (.getfield 30, 3) := by decide +kernel
theorem d5_startWithDraft_10 : decode b5_startWithDraft 10 = .ok (.putfield 26, 3) := by decide +kernel
theorem d5_startWithDraft_13 : decode b5_startWithDraft 13 = .ok (.aload_n 0, 1) := by decide +kernel
theorem d5_startWithDraft_14 : decode b5_startWithDraft 14 = .ok (.aload_n 1, 1) := by decide +kernel
theorem d5_startWithDraft_15 : decode b5_startWithDraft 15 = .ok (.putfield 30, 3) := by decide +kernel
theorem d5_startWithDraft_18 : decode b5_startWithDraft 18 = .ok (.aload_n 0, 1) := by decide +kernel
theorem d5_startWithDraft_19 : decode b5_startWithDraft 19 = .ok (.getfield 36, 3) := by decide +kernel
theorem d5_startWithDraft_22 : decode b5_startWithDraft 22 = .ok (.aload_n 0, 1) := by decide +kernel
theorem d5_startWithDraft_23 : decode b5_startWithDraft 23 = .ok (.getfield 26, 3) := by decide +kernel
theorem d5_startWithDraft_26 : decode b5_startWithDraft 26 = .ok (.getfield 403, 3) := by decide +kernel
theorem d5_startWithDraft_29 : decode b5_startWithDraft 29 = .ok (.invokevirtual 432, 3) := by decide +kernel
theorem d5_startWithDraft_32 : decode b5_startWithDraft 32 = .ok (.aload_n 0, 1) := by decide +kernel
theorem d5_startWithDraft_33 : decode b5_startWithDraft 33 = .ok (.iconst 0, 1) := by decide +kernel
theorem d5_startWithDraft_34 : decode b5_startWithDraft 34 = .ok (.putfield 51, 3) := by decide +kernel
theorem d5_startWithDraft_37 : decode b5_startWithDraft 37 = .ok (.iconst 0, 1) := by decide +kernel
theorem d5_startWithDraft_38 : decode b5_startWithDraft 38 = .ok (.istore_n 2, 1) := by decide +kernel
theorem d5_startWithDraft_39 : decode b5_startWithDraft 39 = .ok (.iload_n 2, 1) := by decide +kernel
theorem d5_startWithDraft_40 : decode b5_startWithDraft 40 = .ok (.iconst 2, 1) := by decide +kernel
theorem d5_startWithDraft_41 : decode b5_startWithDraft 41 = .ok (.if_icmp .ge 16, 3) := by decide +kernel
theorem d5_startWithDraft_44 : decode b5_startWithDraft 44 = .ok (.aload_n 0, 1) := by decide +kernel
theorem d5_startWithDraft_45 : decode b5_startWithDraft 45 = .ok (.getfield 57, 3) := by decide +kernel
theorem d5_startWithDraft_48 : decode b5_startWithDraft 48 = .ok (.iload_n 2, 1) := by decide +kernel
theorem d5_startWithDraft_49 : decode b5_startWithDraft 49 = .ok (.iconst 0, 1) := by decide +kernel
theorem d5_startWithDraft_50 : decode b5_startWithDraft 50 = .ok (.bastore, 1) := by decide +kernel
theorem d5_startWithDraft_51 : decode b5_startWithDraft 51 = .ok (.iinc 2 1, 3) := by decide +kernel
theorem d5_startWithDraft_54 : decode b5_startWithDraft 54 = .ok (.goto (-15), 3) := by decide +kernel
theorem d5_startWithDraft_57 : decode b5_startWithDraft 57 = .ok (.return_, 1) := by decide +kernel
abbrev b5_readScript : ByteArray := prog_1_method_112_code
def y5_readScript : MethodName := ⟨"ChannelSchedule", "readScript", "()Z"⟩
theorem w5_readScript : YV y5_readScript b5_readScript 2 (some .boolean) 0 := ⟨LW_i 1186 (by decide +kernel) (by decide +kernel), LW_i 42 (by decide +kernel) (by decide +kernel), LW_i 110 (by decide +kernel) (by decide +kernel), LW_i 1187 (by decide +kernel) (by decide +kernel), by decide +kernel, by decide +kernel⟩
theorem d5_readScript_0 : decode b5_readScript 0 = .ok (.aload_n 0, 1) := by decide +kernel
theorem d5_readScript_1 : decode b5_readScript 1 = .ok (.getfield 10, 3) := by decide +kernel
theorem d5_readScript_4 : decode b5_readScript 4 = .ok (.invokevirtual 379, 3) := by decide +kernel
theorem d5_readScript_7 : decode b5_readScript 7 = .ok (.aload_n 0, 1) := by decide +kernel
theorem d5_readScript_8 : decode b5_readScript 8 = .ok (.getfield 19, 3) := by decide +kernel
theorem d5_readScript_11 : decode b5_readScript 11 = .ok (.iconst 0, 1) := by decide +kernel
theorem d5_readScript_12 : decode b5_readScript 12 = .ok (.putfield 321, 3) := by decide +kernel
theorem d5_readScript_15 : decode b5_readScript 15 = .ok (.iconst 0, 1) := by decide +kernel
theorem d5_readScript_16 : decode b5_readScript 16 = .ok (.istore_n 1, 1) := by decide +kernel
theorem d5_readScript_17 : decode b5_readScript 17 = .ok (.iload_n 1, 1) := by decide +kernel
theorem d5_readScript_18 : decode b5_readScript 18 = .ok (.bipush 30, 2) := by decide +kernel
theorem d5_readScript_20 : decode b5_readScript 20 = .ok (.if_icmp .gt 28, 3) := by decide +kernel
theorem d5_readScript_23 : decode b5_readScript 23 = .ok (.aload_n 0, 1) := by decide +kernel
theorem d5_readScript_24 : decode b5_readScript 24 = .ok (.getfield 10, 3) := by decide +kernel
theorem d5_readScript_27 : decode b5_readScript 27 = .ok (.getfield 385, 3) := by decide +kernel
theorem d5_readScript_30 : decode b5_readScript 30 = .ok (.ifCond .eq 18, 3) := by decide +kernel
theorem d5_readScript_33 : decode b5_readScript 33 = .ok (.aload_n 0, 1) := by decide +kernel
theorem d5_readScript_34 : decode b5_readScript 34 = .ok (.invokevirtual 435, 3) := by decide +kernel
theorem d5_readScript_37 : decode b5_readScript 37 = .ok (.ifCond .ne 5, 3) := by decide +kernel
theorem d5_readScript_40 : decode b5_readScript 40 = .ok (.iconst 0, 1) := by decide +kernel
theorem d5_readScript_41 : decode b5_readScript 41 = .ok (.ireturn, 1) := by decide +kernel
theorem d5_readScript_42 : decode b5_readScript 42 = .ok (.iinc 1 1, 3) := by decide +kernel
theorem d5_readScript_45 : decode b5_readScript 45 = .ok (.goto (-28), 3) := by decide +kernel
theorem d5_readScript_48 : decode b5_readScript 48 = .ok (.iconst 1, 1) := by decide +kernel
theorem d5_readScript_49 : decode b5_readScript 49 = .ok (.ireturn, 1) := by decide +kernel
abbrev b5_readCommand : ByteArray := prog_1_method_113_code
def y5_readCommand : MethodName := ⟨"ChannelSchedule", "readCommand", "()Z"⟩
theorem w5_readCommand : YV y5_readCommand b5_readCommand 3 (some .boolean) 0 := ⟨LW_i 1190 (by decide +kernel) (by decide +kernel), LW_i 43 (by decide +kernel) (by decide +kernel), LW_i 110 (by decide +kernel) (by decide +kernel), LW_i 1191 (by decide +kernel) (by decide +kernel), by decide +kernel, by decide +kernel⟩
theorem d5_readCommand_0 : decode b5_readCommand 0 = .ok (.aload_n 0, 1) := by decide +kernel
theorem d5_readCommand_1 : decode b5_readCommand 1 = .ok (.invokevirtual 438, 3) := by decide +kernel
theorem d5_readCommand_4 : decode b5_readCommand 4 = .ok (.istore_n 1, 1) := by decide +kernel
theorem d5_readCommand_5 : decode b5_readCommand 5 = .ok (.iload_n 1, 1) := by decide +kernel
theorem d5_readCommand_6 : decode b5_readCommand 6 = .ok (.iconst (-1), 1) := by decide +kernel
theorem d5_readCommand_7 : decode b5_readCommand 7 = .ok (.if_icmp .ne 12, 3) := by decide +kernel
theorem d5_readCommand_10 : decode b5_readCommand 10 = .ok (.aload_n 0, 1) := by decide +kernel
theorem d5_readCommand_11 : decode b5_readCommand 11 = .ok (.getfield 10, 3) := by decide +kernel
theorem d5_readCommand_14 : decode b5_readCommand 14 = .ok (.iconst 1, 1) := by decide +kernel
theorem d5_readCommand_15 : decode b5_readCommand 15 = .ok (.invokevirtual 412, 3) := by decide +kernel
theorem d5_readCommand_18 : decode b5_readCommand 18 = .ok (.ireturn, 1) := by decide +kernel
theorem d5_readCommand_19 : decode b5_readCommand 19 = .ok (.aload_n 0, 1) := by decide +kernel
theorem d5_readCommand_20 : decode b5_readCommand 20 = .ok (.getfield 19, 3) := by decide +kernel
theorem d5_readCommand_23 : decode b5_readCommand 23 = .ok (.getfield 321, 3) := by decide +kernel
theorem d5_readCommand_26 : decode b5_readCommand 26 = .ok (.bipush 30, 2) := by decide +kernel
theorem d5_readCommand_28 : decode b5_readCommand 28 = .ok (.if_icmp .ne 12, 3) := by decide +kernel
theorem d5_readCommand_31 : decode b5_readCommand 31 = .ok (.aload_n 0, 1) := by decide +kernel
theorem d5_readCommand_32 : decode b5_readCommand 32 = .ok (.getfield 10, 3) := by decide +kernel
theorem d5_readCommand_35 : decode b5_readCommand 35 = .ok (.iconst 4, 1) := by decide +kernel
theorem d5_readCommand_36 : decode b5_readCommand 36 = .ok (.invokevirtual 412, 3) := by decide +kernel
theorem d5_readCommand_39 : decode b5_readCommand 39 = .ok (.ireturn, 1) := by decide +kernel
theorem d5_readCommand_40 : decode b5_readCommand 40 = .ok (.aload_n 0, 1) := by decide +kernel
theorem d5_readCommand_41 : decode b5_readCommand 41 = .ok (.getfield 19, 3) := by decide +kernel
theorem d5_readCommand_44 : decode b5_readCommand 44 = .ok (.getfield 321, 3) := by decide +kernel
theorem d5_readCommand_47 : decode b5_readCommand 47 = .ok (.istore_n 2, 1) := by decide +kernel
theorem d5_readCommand_48 : decode b5_readCommand 48 = .ok (.aload_n 0, 1) := by decide +kernel
theorem d5_readCommand_49 : decode b5_readCommand 49 = .ok (.getfield 19, 3) := by decide +kernel
theorem d5_readCommand_52 : decode b5_readCommand 52 = .ok (.getfield 441, 3) := by decide +kernel
theorem d5_readCommand_55 : decode b5_readCommand 55 = .ok (.iload_n 2, 1) := by decide +kernel
theorem d5_readCommand_56 : decode b5_readCommand 56 = .ok (.iload_n 1, 1) := by decide +kernel
theorem d5_readCommand_57 : decode b5_readCommand 57 = .ok (.iastore, 1) := by decide +kernel
theorem d5_readCommand_58 : decode b5_readCommand 58 = .ok (.aload_n 0, 1) := by decide +kernel
theorem d5_readCommand_59 : decode b5_readCommand 59 = .ok (.getfield 10, 3) := by decide +kernel
theorem d5_readCommand_62 : decode b5_readCommand 62 = .ok (.invokevirtual 429, 3) := by decide +kernel
theorem d5_readCommand_65 : decode b5_readCommand 65 = .ok (.iload_n 1, 1) := by decide +kernel
theorem d5_readCommand_66 : decode b5_readCommand 66 = .ok (.ifCond .eq 8, 3) := by decide +kernel
theorem d5_readCommand_69 : decode b5_readCommand 69 = .ok (.iload_n 1, 1) := by decide +kernel
theorem d5_readCommand_70 : decode b5_readCommand 70 = .ok (.iconst 1, 1) := by decide +kernel
theorem d5_readCommand_71 : decode b5_readCommand 71 = .ok (.if_icmp .ne 13, 3) := by decide +kernel
theorem d5_readCommand_74 : decode b5_readCommand 74 = .ok (.aload_n 0, 1) := by decide +kernel
theorem d5_readCommand_75 : decode b5_readCommand 75 = .ok (.iload_n 2, 1) := by decide +kernel
theorem d5_readCommand_76 : decode b5_readCommand 76 = .ok (.invokevirtual 444, 3) := by decide +kernel
theorem d5_readCommand_79 : decode b5_readCommand 79 = .ok (.ifCond .ne 5, 3) := by decide +kernel
theorem d5_readCommand_82 : decode b5_readCommand 82 = .ok (.iconst 0, 1) := by decide +kernel
theorem d5_readCommand_83 : decode b5_readCommand 83 = .ok (.ireturn, 1) := by decide +kernel
theorem d5_readCommand_84 : decode b5_readCommand 84 = .ok (.aload_n 0, 1) := by decide +kernel
theorem d5_readCommand_85 : decode b5_readCommand 85 = .ok (.getfield 10, 3) := by decide +kernel
theorem d5_readCommand_88 : decode b5_readCommand 88 = .ok (.iconst 0, 1) := by decide +kernel
theorem d5_readCommand_89 : decode b5_readCommand 89 = .ok (.sipush 9999, 3) := by decide +kernel
theorem d5_readCommand_92 : decode b5_readCommand 92 = .ok (.invokevirtual 397, 3) := by decide +kernel
theorem d5_readCommand_95 : decode b5_readCommand 95 = .ok (.ifCond .ne 5, 3) := by decide +kernel
theorem d5_readCommand_98 : decode b5_readCommand 98 = .ok (.iconst 0, 1) := by decide +kernel
theorem d5_readCommand_99 : decode b5_readCommand 99 = .ok (.ireturn, 1) := by decide +kernel
theorem d5_readCommand_100 : decode b5_readCommand 100 = .ok (.aload_n 0, 1) := by decide +kernel
theorem d5_readCommand_101 : decode b5_readCommand 101 = .ok (.getfield 19, 3) := by decide +kernel
theorem d5_readCommand_104 : decode b5_readCommand 104 = .ok (.getfield 447, 3) := by decide +kernel
theorem d5_readCommand_107 : decode b5_readCommand 107 = .ok (.iload_n 2, 1) := by decide +kernel
theorem d5_readCommand_108 : decode b5_readCommand 108 = .ok (.aload_n 0, 1) := by decide +kernel
theorem d5_readCommand_109 : decode b5_readCommand 109 = .ok (.getfield 10, 3) := by decide +kernel
theorem d5_readCommand_112 : decode b5_readCommand 112 = .ok (.getfield 400, 3) := by decide +kernel
theorem d5_readCommand_115 : decode b5_readCommand 115 = .ok (.iastore, 1) := by decide +kernel
theorem d5_readCommand_116 : decode b5_readCommand 116 = .ok (.iload_n 1, 1) := by decide +kernel
theorem d5_readCommand_117 : decode b5_readCommand 117 = .ok (.iconst 3, 1) := by decide +kernel
theorem d5_readCommand_118 : decode b5_readCommand 118 = .ok (.if_icmp .eq 8, 3) := by decide +kernel
theorem d5_readCommand_121 : decode b5_readCommand 121 = .ok (.iload_n 1, 1) := by decide +kernel
theorem d5_readCommand_122 : decode b5_readCommand 122 = .ok (.iconst 1, 1) := by decide +kernel
theorem d5_readCommand_123 : decode b5_readCommand 123 = .ok (.if_icmp .ne 19, 3) := by decide +kernel
theorem d5_readCommand_126 : decode b5_readCommand 126 = .ok (.aload_n 0, 1) := by decide +kernel
theorem d5_readCommand_127 : decode b5_readCommand 127 = .ok (.getfield 10, 3) := by decide +kernel
theorem d5_readCommand_130 : decode b5_readCommand 130 = .ok (.iconst 0, 1) := by decide +kernel
theorem d5_readCommand_131 : decode b5_readCommand 131 = .ok (.sipush 9999, 3) := by decide +kernel
theorem d5_readCommand_134 : decode b5_readCommand 134 = .ok (.invokevirtual 397, 3) := by decide +kernel
theorem d5_readCommand_137 : decode b5_readCommand 137 = .ok (.ifCond .ne 5, 3) := by decide +kernel
theorem d5_readCommand_140 : decode b5_readCommand 140 = .ok (.iconst 0, 1) := by decide +kernel
theorem d5_readCommand_141 : decode b5_readCommand 141 = .ok (.ireturn, 1) := by decide +kernel
theorem d5_readCommand_142 : decode b5_readCommand 142 = .ok (.aload_n 0, 1) := by decide +kernel
theorem d5_readCommand_143 : decode b5_readCommand 143 = .ok (.getfield 19, 3) := by decide +kernel
theorem d5_readCommand_146 : decode b5_readCommand 146 = .ok (.getfield 450, 3) := by decide +kernel
theorem d5_readCommand_149 : decode b5_readCommand 149 = .ok (.iload_n 2, 1) := by decide +kernel
theorem d5_readCommand_150 : decode b5_readCommand 150 = .ok (.aload_n 0, 1) := by decide +kernel
theorem d5_readCommand_151 : decode b5_readCommand 151 = .ok (.getfield 10, 3) := by decide +kernel
theorem d5_readCommand_154 : decode b5_readCommand 154 = .ok (.getfield 400, 3) := by decide +kernel
theorem d5_readCommand_157 : decode b5_readCommand 157 = .ok (.iastore, 1) := by decide +kernel
theorem d5_readCommand_158 : decode b5_readCommand 158 = .ok (.aload_n 0, 1) := by decide +kernel
theorem d5_readCommand_159 : decode b5_readCommand 159 = .ok (.getfield 19, 3) := by decide +kernel
theorem d5_readCommand_162 : decode b5_readCommand 162 = .ok (.dup, 1) := by decide +kernel
theorem d5_readCommand_163 : decode b5_readCommand 163 = .ok (.getfield 321, 3) := by decide +kernel
theorem d5_readCommand_166 : decode b5_readCommand 166 = .ok (.iconst 1, 1) := by decide +kernel
theorem d5_readCommand_167 : decode b5_readCommand 167 = .ok (.iadd, 1) := by decide +kernel
theorem d5_readCommand_168 : decode b5_readCommand 168 = .ok (.putfield 321, 3) := by decide +kernel
theorem d5_readCommand_171 : decode b5_readCommand 171 = .ok (.aload_n 0, 1) := by decide +kernel
theorem d5_readCommand_172 : decode b5_readCommand 172 = .ok (.getfield 10, 3) := by decide +kernel
theorem d5_readCommand_175 : decode b5_readCommand 175 = .ok (.invokevirtual 404, 3) := by decide +kernel
theorem d5_readCommand_178 : decode b5_readCommand 178 = .ok (.ireturn, 1) := by decide +kernel
abbrev b5_verbRead : ByteArray := prog_1_method_114_code
def y5_verbRead : MethodName := ⟨"ChannelSchedule", "verbRead", "()I"⟩
theorem w5_verbRead : YV y5_verbRead b5_verbRead 1 (some .int) 0 := ⟨LW_i 1194 (by decide +kernel) (by decide +kernel), LW_i 44 (by decide +kernel) (by decide +kernel), LW_i 110 (by decide +kernel) (by decide +kernel), LW_i 1195 (by decide +kernel) (by decide +kernel), by decide +kernel, by decide +kernel⟩
theorem d5_verbRead_0 : decode b5_verbRead 0 = .ok (.aload_n 0, 1) := by decide +kernel
theorem d5_verbRead_1 : decode b5_verbRead 1 = .ok (.getfield 10, 3) := by decide +kernel
theorem d5_verbRead_4 : decode b5_verbRead 4 = .ok (.ldc_w 453, 3) := by decide +kernel
theorem d5_verbRead_7 : decode b5_verbRead 7 = .ok (.invokevirtual 409, 3) := by decide +kernel
theorem d5_verbRead_10 : decode b5_verbRead 10 = .ok (.ifCond .eq 5, 3) := by decide +kernel
theorem d5_verbRead_13 : decode b5_verbRead 13 = .ok (.iconst 0, 1) := by decide +kernel
theorem d5_verbRead_14 : decode b5_verbRead 14 = .ok (.ireturn, 1) := by decide +kernel
theorem d5_verbRead_15 : decode b5_verbRead 15 = .ok (.aload_n 0, 1) := by decide +kernel
theorem d5_verbRead_16 : decode b5_verbRead 16 = .ok (.getfield 10, 3) := by decide +kernel
theorem d5_verbRead_19 : decode b5_verbRead 19 = .ok (.ldc_w 455, 3) := by decide +kernel
theorem d5_verbRead_22 : decode b5_verbRead 22 = .ok (.invokevirtual 409, 3) := by decide +kernel
theorem d5_verbRead_25 : decode b5_verbRead 25 = .ok (.ifCond .eq 5, 3) := by decide +kernel
theorem d5_verbRead_28 : decode b5_verbRead 28 = .ok (.iconst 1, 1) := by decide +kernel
theorem d5_verbRead_29 : decode b5_verbRead 29 = .ok (.ireturn, 1) := by decide +kernel
theorem d5_verbRead_30 : decode b5_verbRead 30 = .ok (.aload_n 0, 1) := by decide +kernel
theorem d5_verbRead_31 : decode b5_verbRead 31 = .ok (.getfield 10, 3) := by decide +kernel
theorem d5_verbRead_34 : decode b5_verbRead 34 = .ok (.ldc_w 457, 3) := by decide +kernel
theorem d5_verbRead_37 : decode b5_verbRead 37 = .ok (.invokevirtual 409, 3) := by decide +kernel
theorem d5_verbRead_40 : decode b5_verbRead 40 = .ok (.ifCond .eq 5, 3) := by decide +kernel
theorem d5_verbRead_43 : decode b5_verbRead 43 = .ok (.iconst 2, 1) := by decide +kernel
theorem d5_verbRead_44 : decode b5_verbRead 44 = .ok (.ireturn, 1) := by decide +kernel
theorem d5_verbRead_45 : decode b5_verbRead 45 = .ok (.aload_n 0, 1) := by decide +kernel
theorem d5_verbRead_46 : decode b5_verbRead 46 = .ok (.getfield 10, 3) := by decide +kernel
theorem d5_verbRead_49 : decode b5_verbRead 49 = .ok (.ldc_w 459, 3) := by decide +kernel
theorem d5_verbRead_52 : decode b5_verbRead 52 = .ok (.invokevirtual 409, 3) := by decide +kernel
theorem d5_verbRead_55 : decode b5_verbRead 55 = .ok (.ifCond .eq 5, 3) := by decide +kernel
theorem d5_verbRead_58 : decode b5_verbRead 58 = .ok (.iconst 3, 1) := by decide +kernel
theorem d5_verbRead_59 : decode b5_verbRead 59 = .ok (.ireturn, 1) := by decide +kernel
theorem d5_verbRead_60 : decode b5_verbRead 60 = .ok (.aload_n 0, 1) := by decide +kernel
theorem d5_verbRead_61 : decode b5_verbRead 61 = .ok (.getfield 10, 3) := by decide +kernel
theorem d5_verbRead_64 : decode b5_verbRead 64 = .ok (.ldc_w 461, 3) := by decide +kernel
theorem d5_verbRead_67 : decode b5_verbRead 67 = .ok (.invokevirtual 409, 3) := by decide +kernel
theorem d5_verbRead_70 : decode b5_verbRead 70 = .ok (.ifCond .eq 5, 3) := by decide +kernel
theorem d5_verbRead_73 : decode b5_verbRead 73 = .ok (.iconst 4, 1) := by decide +kernel
theorem d5_verbRead_74 : decode b5_verbRead 74 = .ok (.ireturn, 1) := by decide +kernel
theorem d5_verbRead_75 : decode b5_verbRead 75 = .ok (.aload_n 0, 1) := by decide +kernel
theorem d5_verbRead_76 : decode b5_verbRead 76 = .ok (.getfield 10, 3) := by decide +kernel
theorem d5_verbRead_79 : decode b5_verbRead 79 = .ok (.ldc_w 463, 3) := by decide +kernel
theorem d5_verbRead_82 : decode b5_verbRead 82 = .ok (.invokevirtual 409, 3) := by decide +kernel
theorem d5_verbRead_85 : decode b5_verbRead 85 = .ok (.ifCond .eq 5, 3) := by decide +kernel
theorem d5_verbRead_88 : decode b5_verbRead 88 = .ok (.iconst 5, 1) := by decide +kernel
theorem d5_verbRead_89 : decode b5_verbRead 89 = .ok (.ireturn, 1) := by decide +kernel
theorem d5_verbRead_90 : decode b5_verbRead 90 = .ok (.aload_n 0, 1) := by decide +kernel
theorem d5_verbRead_91 : decode b5_verbRead 91 = .ok (.getfield 10, 3) := by decide +kernel
theorem d5_verbRead_94 : decode b5_verbRead 94 = .ok (.ldc_w 465, 3) := by decide +kernel
theorem d5_verbRead_97 : decode b5_verbRead 97 = .ok (.invokevirtual 409, 3) := by decide +kernel
theorem d5_verbRead_100 : decode b5_verbRead 100 = .ok (.ifCond .eq 8, 3) := by decide +kernel
theorem d5_verbRead_103 : decode b5_verbRead 103 = .ok (.bipush 6, 2) := by decide +kernel
theorem d5_verbRead_105 : decode b5_verbRead 105 = .ok (.goto 4, 3) := by decide +kernel
theorem d5_verbRead_108 : decode b5_verbRead 108 = .ok (.iconst (-1), 1) := by decide +kernel
theorem d5_verbRead_109 : decode b5_verbRead 109 = .ok (.ireturn, 1) := by decide +kernel
abbrev b5_readShipAndWay : ByteArray := prog_1_method_115_code
def y5_readShipAndWay : MethodName := ⟨"ChannelSchedule", "readShipAndWay", "(I)Z"⟩
theorem w5_readShipAndWay : YV y5_readShipAndWay b5_readShipAndWay 4 (some .boolean) 1 := ⟨LW_i 1205 (by decide +kernel) (by decide +kernel), LW_i 45 (by decide +kernel) (by decide +kernel), LW_i 110 (by decide +kernel) (by decide +kernel), LW_i 1206 (by decide +kernel) (by decide +kernel), by decide +kernel, by decide +kernel⟩
theorem d5_readShipAndWay_0 : decode b5_readShipAndWay 0 = .ok (.aload_n 0, 1) := by decide +kernel
theorem d5_readShipAndWay_1 : decode b5_readShipAndWay 1 = .ok (.getfield 10, 3) := by decide +kernel
theorem d5_readShipAndWay_4 : decode b5_readShipAndWay 4 = .ok (.getfield 385, 3) := by decide +kernel
theorem d5_readShipAndWay_7 : decode b5_readShipAndWay 7 = .ok (.iconst 1, 1) := by decide +kernel
theorem d5_readShipAndWay_8 : decode b5_readShipAndWay 8 = .ok (.if_icmp .eq 12, 3) := by decide +kernel
theorem d5_readShipAndWay_11 : decode b5_readShipAndWay 11 = .ok (.aload_n 0, 1) := by decide +kernel
theorem d5_readShipAndWay_12 : decode b5_readShipAndWay 12 = .ok (.getfield 10, 3) := by decide +kernel
theorem d5_readShipAndWay_15 : decode b5_readShipAndWay 15 = .ok (.iconst 1, 1) := by decide +kernel
theorem d5_readShipAndWay_16 : decode b5_readShipAndWay 16 = .ok (.invokevirtual 412, 3) := by decide +kernel
theorem d5_readShipAndWay_19 : decode b5_readShipAndWay 19 = .ok (.ireturn, 1) := by decide +kernel
theorem d5_readShipAndWay_20 : decode b5_readShipAndWay 20 = .ok (.aload_n 0, 1) := by decide +kernel
theorem d5_readShipAndWay_21 : decode b5_readShipAndWay 21 = .ok (.getfield 26, 3) := by decide +kernel
theorem d5_readShipAndWay_24 : decode b5_readShipAndWay 24 = .ok (.aload_n 0, 1) := by decide +kernel
theorem d5_readShipAndWay_25 : decode b5_readShipAndWay 25 = .ok (.getfield 10, 3) := by decide +kernel
theorem d5_readShipAndWay_28 : decode b5_readShipAndWay 28 = .ok (.getfield 165, 3) := by decide +kernel
theorem d5_readShipAndWay_31 : decode b5_readShipAndWay 31 = .ok (.aload_n 0, 1) := by decide +kernel
theorem d5_readShipAndWay_32 : decode b5_readShipAndWay 32 = .ok (.getfield 10, 3) := by decide +kernel
theorem d5_readShipAndWay_35 : decode b5_readShipAndWay 35 = .ok (.getfield 422, 3) := by decide +kernel
theorem d5_readShipAndWay_38 : decode b5_readShipAndWay 38 = .ok (.aload_n 0, 1) := by decide +kernel
theorem d5_readShipAndWay_39 : decode b5_readShipAndWay 39 = .ok (.getfield 10, 3) := by decide +kernel
theorem d5_readShipAndWay_42 : decode b5_readShipAndWay 42 = .ok (.getfield 419, 3) := by decide +kernel
theorem d5_readShipAndWay_45 : decode b5_readShipAndWay 45 = .ok (.aload_n 0, 1) := by decide +kernel
theorem d5_readShipAndWay_46 : decode b5_readShipAndWay 46 = .ok (.getfield 10, 3) := by decide +kernel
theorem d5_readShipAndWay_49 : decode b5_readShipAndWay 49 = .ok (.getfield 422, 3) := by decide +kernel
theorem d5_readShipAndWay_52 : decode b5_readShipAndWay 52 = .ok (.isub, 1) := by decide +kernel
theorem d5_readShipAndWay_53 : decode b5_readShipAndWay 53 = .ok (.invokevirtual 168, 3) := by decide +kernel
theorem d5_readShipAndWay_56 : decode b5_readShipAndWay 56 = .ok (.istore_n 2, 1) := by decide +kernel
theorem d5_readShipAndWay_57 : decode b5_readShipAndWay 57 = .ok (.iload_n 2, 1) := by decide +kernel
theorem d5_readShipAndWay_58 : decode b5_readShipAndWay 58 = .ok (.iconst (-1), 1) := by decide +kernel
theorem d5_readShipAndWay_59 : decode b5_readShipAndWay 59 = .ok (.if_icmp .ne 12, 3) := by decide +kernel
theorem d5_readShipAndWay_62 : decode b5_readShipAndWay 62 = .ok (.aload_n 0, 1) := by decide +kernel
theorem d5_readShipAndWay_63 : decode b5_readShipAndWay 63 = .ok (.getfield 10, 3) := by decide +kernel
theorem d5_readShipAndWay_66 : decode b5_readShipAndWay 66 = .ok (.iconst 3, 1) := by decide +kernel
theorem d5_readShipAndWay_67 : decode b5_readShipAndWay 67 = .ok (.invokevirtual 412, 3) := by decide +kernel
theorem d5_readShipAndWay_70 : decode b5_readShipAndWay 70 = .ok (.ireturn, 1) := by decide +kernel
theorem d5_readShipAndWay_71 : decode b5_readShipAndWay 71 = .ok (.aload_n 0, 1) := by decide +kernel
theorem d5_readShipAndWay_72 : decode b5_readShipAndWay 72 = .ok (.getfield 19, 3) := by decide +kernel
theorem d5_readShipAndWay_75 : decode b5_readShipAndWay 75 = .ok (.getfield 467, 3) := by decide +kernel
theorem d5_readShipAndWay_78 : decode b5_readShipAndWay 78 = .ok (.iload_n 1, 1) := by decide +kernel
theorem d5_readShipAndWay_79 : decode b5_readShipAndWay 79 = .ok (.iload_n 2, 1) := by decide +kernel
theorem d5_readShipAndWay_80 : decode b5_readShipAndWay 80 = .ok (.iastore, 1) := by decide +kernel
theorem d5_readShipAndWay_81 : decode b5_readShipAndWay 81 = .ok (.aload_n 0, 1) := by decide +kernel
theorem d5_readShipAndWay_82 : decode b5_readShipAndWay 82 = .ok (.getfield 10, 3) := by decide +kernel
theorem d5_readShipAndWay_85 : decode b5_readShipAndWay 85 = .ok (.invokevirtual 429, 3) := by decide +kernel
theorem d5_readShipAndWay_88 : decode b5_readShipAndWay 88 = .ok (.aload_n 0, 1) := by decide +kernel
theorem d5_readShipAndWay_89 : decode b5_readShipAndWay 89 = .ok (.getfield 10, 3) := by decide +kernel
theorem d5_readShipAndWay_92 : decode b5_readShipAndWay 92 = .ok (.ldc_w 468, 3) := by decide +kernel
theorem d5_readShipAndWay_95 : decode b5_readShipAndWay 95 = .ok (.invokevirtual 409, 3) := by decide +kernel
theorem d5_readShipAndWay_98 : decode b5_readShipAndWay 98 = .ok (.istore_n 3, 1) := by decide +kernel
theorem d5_readShipAndWay_99 : decode b5_readShipAndWay 99 = .ok (.iload_n 3, 1) := by decide +kernel
theorem d5_readShipAndWay_100 : decode b5_readShipAndWay 100 = .ok (.ifCond .ne 25, 3) := by decide +kernel
theorem d5_readShipAndWay_103 : decode b5_readShipAndWay 103 = .ok (.aload_n 0, 1) := by decide +kernel
theorem d5_readShipAndWay_104 : decode b5_readShipAndWay 104 = .ok (.getfield 10, 3) := by decide +kernel
theorem d5_readShipAndWay_107 : decode b5_readShipAndWay 107 = .ok (.ldc_w 470, 3) := by decide +kernel
theorem d5_readShipAndWay_110 : decode b5_readShipAndWay 110 = .ok (.invokevirtual 409, 3) := by decide +kernel
theorem d5_readShipAndWay_113 : decode b5_readShipAndWay 113 = .ok (.ifCond .ne 12, 3) := by decide +kernel
theorem d5_readShipAndWay_116 : decode b5_readShipAndWay 116 = .ok (.aload_n 0, 1) := by decide +kernel
theorem d5_readShipAndWay_117 : decode b5_readShipAndWay 117 = .ok (.getfield 10, 3) := by decide +kernel
theorem d5_readShipAndWay_120 : decode b5_readShipAndWay 120 = .ok (.iconst 1, 1) := by decide +kernel
theorem d5_readShipAndWay_121 : decode b5_readShipAndWay 121 = .ok (.invokevirtual 412, 3) := by decide +kernel
theorem d5_readShipAndWay_124 : decode b5_readShipAndWay 124 = .ok (.ireturn, 1) := by decide +kernel
theorem d5_readShipAndWay_125 : decode b5_readShipAndWay 125 = .ok (.aload_n 0, 1) := by decide +kernel
theorem d5_readShipAndWay_126 : decode b5_readShipAndWay 126 = .ok (.getfield 19, 3) := by decide +kernel
theorem d5_readShipAndWay_129 : decode b5_readShipAndWay 129 = .ok (.getfield 472, 3) := by decide +kernel
theorem d5_readShipAndWay_132 : decode b5_readShipAndWay 132 = .ok (.iload_n 1, 1) := by decide +kernel
theorem d5_readShipAndWay_133 : decode b5_readShipAndWay 133 = .ok (.iload_n 3, 1) := by decide +kernel
theorem d5_readShipAndWay_134 : decode b5_readShipAndWay 134 = .ok (.bastore, 1) := by decide +kernel
theorem d5_readShipAndWay_135 : decode b5_readShipAndWay 135 = .ok (.aload_n 0, 1) := by decide +kernel
theorem d5_readShipAndWay_136 : decode b5_readShipAndWay 136 = .ok (.getfield 10, 3) := by decide +kernel
theorem d5_readShipAndWay_139 : decode b5_readShipAndWay 139 = .ok (.invokevirtual 429, 3) := by decide +kernel
theorem d5_readShipAndWay_142 : decode b5_readShipAndWay 142 = .ok (.iconst 1, 1) := by decide +kernel
theorem d5_readShipAndWay_143 : decode b5_readShipAndWay 143 = .ok (.ireturn, 1) := by decide +kernel
abbrev b5_faultOf : ByteArray := prog_1_method_116_code
def y5_faultOf : MethodName := ⟨"ChannelSchedule", "faultOf", "(I)I"⟩
theorem w5_faultOf : YV y5_faultOf b5_faultOf 4 (some .int) 1 := ⟨LW_i 1211 (by decide +kernel) (by decide +kernel), LW_i 46 (by decide +kernel) (by decide +kernel), LW_i 110 (by decide +kernel) (by decide +kernel), LW_i 1212 (by decide +kernel) (by decide +kernel), by decide +kernel, by decide +kernel⟩
theorem d5_faultOf_0 : decode b5_faultOf 0 = .ok (.aload_n 0, 1) := by decide +kernel
theorem d5_faultOf_1 : decode b5_faultOf 1 = .ok (.getfield 19, 3) := by decide +kernel
theorem d5_faultOf_4 : decode b5_faultOf 4 = .ok (.getfield 447, 3) := by decide +kernel
theorem d5_faultOf_7 : decode b5_faultOf 7 = .ok (.iload_n 1, 1) := by decide +kernel
theorem d5_faultOf_8 : decode b5_faultOf 8 = .ok (.iaload, 1) := by decide +kernel
theorem d5_faultOf_9 : decode b5_faultOf 9 = .ok (.istore_n 2, 1) := by decide +kernel
theorem d5_faultOf_10 : decode b5_faultOf 10 = .ok (.aload_n 0, 1) := by decide +kernel
theorem d5_faultOf_11 : decode b5_faultOf 11 = .ok (.getfield 19, 3) := by decide +kernel
theorem d5_faultOf_14 : decode b5_faultOf 14 = .ok (.getfield 450, 3) := by decide +kernel
theorem d5_faultOf_17 : decode b5_faultOf 17 = .ok (.iload_n 1, 1) := by decide +kernel
theorem d5_faultOf_18 : decode b5_faultOf 18 = .ok (.iaload, 1) := by decide +kernel
theorem d5_faultOf_19 : decode b5_faultOf 19 = .ok (.istore_n 3, 1) := by decide +kernel
theorem d5_faultOf_20 : decode b5_faultOf 20 = .ok (.aload_n 0, 1) := by decide +kernel
theorem d5_faultOf_21 : decode b5_faultOf 21 = .ok (.getfield 19, 3) := by decide +kernel
theorem d5_faultOf_24 : decode b5_faultOf 24 = .ok (.getfield 441, 3) := by decide +kernel
theorem d5_faultOf_27 : decode b5_faultOf 27 = .ok (.iload_n 1, 1) := by decide +kernel
theorem d5_faultOf_28 : decode b5_faultOf 28 = .ok (.iaload, 1) := by decide +kernel
theorem d5_faultOf_29 : decode b5_faultOf 29 = .ok (.tableswitch 131 0 5 #[39, 63, 88, 94, 101, 115], 39) := by decide +kernel
theorem d5_faultOf_68 : decode b5_faultOf 68 = .ok (.aload_n 0, 1) := by decide +kernel
theorem d5_faultOf_69 : decode b5_faultOf 69 = .ok (.aload_n 0, 1) := by decide +kernel
theorem d5_faultOf_70 : decode b5_faultOf 70 = .ok (.getfield 19, 3) := by decide +kernel
theorem d5_faultOf_73 : decode b5_faultOf 73 = .ok (.getfield 467, 3) := by decide +kernel
theorem d5_faultOf_76 : decode b5_faultOf 76 = .ok (.iload_n 1, 1) := by decide +kernel
theorem d5_faultOf_77 : decode b5_faultOf 77 = .ok (.iaload, 1) := by decide +kernel
theorem d5_faultOf_78 : decode b5_faultOf 78 = .ok (.aload_n 0, 1) := by decide +kernel
theorem d5_faultOf_79 : decode b5_faultOf 79 = .ok (.getfield 19, 3) := by decide +kernel
theorem d5_faultOf_82 : decode b5_faultOf 82 = .ok (.getfield 472, 3) := by decide +kernel
theorem d5_faultOf_85 : decode b5_faultOf 85 = .ok (.iload_n 1, 1) := by decide +kernel
theorem d5_faultOf_86 : decode b5_faultOf 86 = .ok (.baload, 1) := by decide +kernel
theorem d5_faultOf_87 : decode b5_faultOf 87 = .ok (.iload_n 2, 1) := by decide +kernel
theorem d5_faultOf_88 : decode b5_faultOf 88 = .ok (.invokevirtual 277, 3) := by decide +kernel
theorem d5_faultOf_91 : decode b5_faultOf 91 = .ok (.ireturn, 1) := by decide +kernel
theorem d5_faultOf_92 : decode b5_faultOf 92 = .ok (.aload_n 0, 1) := by decide +kernel
theorem d5_faultOf_93 : decode b5_faultOf 93 = .ok (.aload_n 0, 1) := by decide +kernel
theorem d5_faultOf_94 : decode b5_faultOf 94 = .ok (.getfield 19, 3) := by decide +kernel
theorem d5_faultOf_97 : decode b5_faultOf 97 = .ok (.getfield 467, 3) := by decide +kernel
theorem d5_faultOf_100 : decode b5_faultOf 100 = .ok (.iload_n 1, 1) := by decide +kernel
theorem d5_faultOf_101 : decode b5_faultOf 101 = .ok (.iaload, 1) := by decide +kernel
theorem d5_faultOf_102 : decode b5_faultOf 102 = .ok (.aload_n 0, 1) := by decide +kernel
theorem d5_faultOf_103 : decode b5_faultOf 103 = .ok (.getfield 19, 3) := by decide +kernel
theorem d5_faultOf_106 : decode b5_faultOf 106 = .ok (.getfield 472, 3) := by decide +kernel
theorem d5_faultOf_109 : decode b5_faultOf 109 = .ok (.iload_n 1, 1) := by decide +kernel
theorem d5_faultOf_110 : decode b5_faultOf 110 = .ok (.baload, 1) := by decide +kernel
theorem d5_faultOf_111 : decode b5_faultOf 111 = .ok (.iload_n 2, 1) := by decide +kernel
theorem d5_faultOf_112 : decode b5_faultOf 112 = .ok (.iload_n 3, 1) := by decide +kernel
theorem d5_faultOf_113 : decode b5_faultOf 113 = .ok (.invokevirtual 290, 3) := by decide +kernel
theorem d5_faultOf_116 : decode b5_faultOf 116 = .ok (.ireturn, 1) := by decide +kernel
theorem d5_faultOf_117 : decode b5_faultOf 117 = .ok (.aload_n 0, 1) := by decide +kernel
theorem d5_faultOf_118 : decode b5_faultOf 118 = .ok (.iload_n 2, 1) := by decide +kernel
theorem d5_faultOf_119 : decode b5_faultOf 119 = .ok (.invokevirtual 297, 3) := by decide +kernel
theorem d5_faultOf_122 : decode b5_faultOf 122 = .ok (.ireturn, 1) := by decide +kernel
theorem d5_faultOf_123 : decode b5_faultOf 123 = .ok (.aload_n 0, 1) := by decide +kernel
theorem d5_faultOf_124 : decode b5_faultOf 124 = .ok (.iload_n 2, 1) := by decide +kernel
theorem d5_faultOf_125 : decode b5_faultOf 125 = .ok (.iload_n 3, 1) := by decide +kernel
theorem d5_faultOf_126 : decode b5_faultOf 126 = .ok (.invokevirtual 300, 3) := by decide +kernel
theorem d5_faultOf_129 : decode b5_faultOf 129 = .ok (.ireturn, 1) := by decide +kernel
theorem d5_faultOf_130 : decode b5_faultOf 130 = .ok (.aload_n 0, 1) := by decide +kernel
theorem d5_faultOf_131 : decode b5_faultOf 131 = .ok (.iload_n 2, 1) := by decide +kernel
theorem d5_faultOf_132 : decode b5_faultOf 132 = .ok (.invokevirtual 234, 3) := by decide +kernel
theorem d5_faultOf_135 : decode b5_faultOf 135 = .ok (.ifCond .eq 7, 3) := by decide +kernel
theorem d5_faultOf_138 : decode b5_faultOf 138 = .ok (.iconst 0, 1) := by decide +kernel
theorem d5_faultOf_139 : decode b5_faultOf 139 = .ok (.goto 4, 3) := by decide +kernel
theorem d5_faultOf_142 : decode b5_faultOf 142 = .ok (.iconst 1, 1) := by decide +kernel
theorem d5_faultOf_143 : decode b5_faultOf 143 = .ok (.ireturn, 1) := by decide +kernel
theorem d5_faultOf_144 : decode b5_faultOf 144 = .ok (.iload_n 2, 1) := by decide +kernel
theorem d5_faultOf_145 : decode b5_faultOf 145 = .ok (.iconst 0, 1) := by decide +kernel
theorem d5_faultOf_146 : decode b5_faultOf 146 = .ok (.bipush 9, 2) := by decide +kernel
theorem d5_faultOf_148 : decode b5_faultOf 148 = .ok (.invokestatic 104, 3) := by decide +kernel
theorem d5_faultOf_151 : decode b5_faultOf 151 = .ok (.ifCond .eq 7, 3) := by decide +kernel
theorem d5_faultOf_154 : decode b5_faultOf 154 = .ok (.iconst 0, 1) := by decide +kernel
theorem d5_faultOf_155 : decode b5_faultOf 155 = .ok (.goto 4, 3) := by decide +kernel
theorem d5_faultOf_158 : decode b5_faultOf 158 = .ok (.iconst 2, 1) := by decide +kernel
theorem d5_faultOf_159 : decode b5_faultOf 159 = .ok (.ireturn, 1) := by decide +kernel
theorem d5_faultOf_160 : decode b5_faultOf 160 = .ok (.aload_n 0, 1) := by decide +kernel
theorem d5_faultOf_161 : decode b5_faultOf 161 = .ok (.iload_n 2, 1) := by decide +kernel
theorem d5_faultOf_162 : decode b5_faultOf 162 = .ok (.invokevirtual 312, 3) := by decide +kernel
theorem d5_faultOf_165 : decode b5_faultOf 165 = .ok (.ireturn, 1) := by decide +kernel
abbrev b5_execute : ByteArray := prog_1_method_117_code
def y5_execute : MethodName := ⟨"ChannelSchedule", "execute", "(I)V"⟩
theorem w5_execute : YV y5_execute b5_execute 4 none 1 := ⟨LW_i 1215 (by decide +kernel) (by decide +kernel), LW_i 47 (by decide +kernel) (by decide +kernel), LW_i 110 (by decide +kernel) (by decide +kernel), LW_i 1216 (by decide +kernel) (by decide +kernel), by decide +kernel, by decide +kernel⟩
theorem d5_execute_0 : decode b5_execute 0 = .ok (.aload_n 0, 1) := by decide +kernel
theorem d5_execute_1 : decode b5_execute 1 = .ok (.getfield 19, 3) := by decide +kernel
theorem d5_execute_4 : decode b5_execute 4 = .ok (.getfield 447, 3) := by decide +kernel
theorem d5_execute_7 : decode b5_execute 7 = .ok (.iload_n 1, 1) := by decide +kernel
theorem d5_execute_8 : decode b5_execute 8 = .ok (.iaload, 1) := by decide +kernel
theorem d5_execute_9 : decode b5_execute 9 = .ok (.istore_n 2, 1) := by decide +kernel
theorem d5_execute_10 : decode b5_execute 10 = .ok (.aload_n 0, 1) := by decide +kernel
theorem d5_execute_11 : decode b5_execute 11 = .ok (.getfield 19, 3) := by decide +kernel
theorem d5_execute_14 : decode b5_execute 14 = .ok (.getfield 450, 3) := by decide +kernel
theorem d5_execute_17 : decode b5_execute 17 = .ok (.iload_n 1, 1) := by decide +kernel
theorem d5_execute_18 : decode b5_execute 18 = .ok (.iaload, 1) := by decide +kernel
theorem d5_execute_19 : decode b5_execute 19 = .ok (.istore_n 3, 1) := by decide +kernel
theorem d5_execute_20 : decode b5_execute 20 = .ok (.aload_n 0, 1) := by decide +kernel
theorem d5_execute_21 : decode b5_execute 21 = .ok (.getfield 19, 3) := by decide +kernel
theorem d5_execute_24 : decode b5_execute 24 = .ok (.getfield 441, 3) := by decide +kernel
theorem d5_execute_27 : decode b5_execute 27 = .ok (.iload_n 1, 1) := by decide +kernel
theorem d5_execute_28 : decode b5_execute 28 = .ok (.iaload, 1) := by decide +kernel
theorem d5_execute_29 : decode b5_execute 29 = .ok (.tableswitch 133 0 5 #[39, 66, 94, 103, 113, 124], 39) := by decide +kernel
theorem d5_execute_68 : decode b5_execute 68 = .ok (.aload_n 0, 1) := by decide +kernel
theorem d5_execute_69 : decode b5_execute 69 = .ok (.aload_n 0, 1) := by decide +kernel
theorem d5_execute_70 : decode b5_execute 70 = .ok (.getfield 19, 3) := by decide +kernel
theorem d5_execute_73 : decode b5_execute 73 = .ok (.getfield 467, 3) := by decide +kernel
theorem d5_execute_76 : decode b5_execute 76 = .ok (.iload_n 1, 1) := by decide +kernel
theorem d5_execute_77 : decode b5_execute 77 = .ok (.iaload, 1) := by decide +kernel
theorem d5_execute_78 : decode b5_execute 78 = .ok (.aload_n 0, 1) := by decide +kernel
theorem d5_execute_79 : decode b5_execute 79 = .ok (.getfield 19, 3) := by decide +kernel
theorem d5_execute_82 : decode b5_execute 82 = .ok (.getfield 472, 3) := by decide +kernel
theorem d5_execute_85 : decode b5_execute 85 = .ok (.iload_n 1, 1) := by decide +kernel
theorem d5_execute_86 : decode b5_execute 86 = .ok (.baload, 1) := by decide +kernel
theorem d5_execute_87 : decode b5_execute 87 = .ok (.iload_n 2, 1) := by decide +kernel
theorem d5_execute_88 : decode b5_execute 88 = .ok (.invokevirtual 287, 3) := by decide +kernel
theorem d5_execute_91 : decode b5_execute 91 = .ok (.pop, 1) := by decide +kernel
theorem d5_execute_92 : decode b5_execute 92 = .ok (.goto 76, 3) := by decide +kernel
theorem d5_execute_95 : decode b5_execute 95 = .ok (.aload_n 0, 1) := by decide +kernel
theorem d5_execute_96 : decode b5_execute 96 = .ok (.aload_n 0, 1) := by decide +kernel
theorem d5_execute_97 : decode b5_execute 97 = .ok (.getfield 19, 3) := by decide +kernel
theorem d5_execute_100 : decode b5_execute 100 = .ok (.getfield 467, 3) := by decide +kernel
theorem d5_execute_103 : decode b5_execute 103 = .ok (.iload_n 1, 1) := by decide +kernel
theorem d5_execute_104 : decode b5_execute 104 = .ok (.iaload, 1) := by decide +kernel
theorem d5_execute_105 : decode b5_execute 105 = .ok (.aload_n 0, 1) := by decide +kernel
theorem d5_execute_106 : decode b5_execute 106 = .ok (.getfield 19, 3) := by decide +kernel
theorem d5_execute_109 : decode b5_execute 109 = .ok (.getfield 472, 3) := by decide +kernel
theorem d5_execute_112 : decode b5_execute 112 = .ok (.iload_n 1, 1) := by decide +kernel
theorem d5_execute_113 : decode b5_execute 113 = .ok (.baload, 1) := by decide +kernel
theorem d5_execute_114 : decode b5_execute 114 = .ok (.iload_n 2, 1) := by decide +kernel
theorem d5_execute_115 : decode b5_execute 115 = .ok (.iload_n 3, 1) := by decide +kernel
theorem d5_execute_116 : decode b5_execute 116 = .ok (.invokevirtual 294, 3) := by decide +kernel
theorem d5_execute_119 : decode b5_execute 119 = .ok (.pop, 1) := by decide +kernel
theorem d5_execute_120 : decode b5_execute 120 = .ok (.goto 48, 3) := by decide +kernel
theorem d5_execute_123 : decode b5_execute 123 = .ok (.aload_n 0, 1) := by decide +kernel
theorem d5_execute_124 : decode b5_execute 124 = .ok (.iload_n 2, 1) := by decide +kernel
theorem d5_execute_125 : decode b5_execute 125 = .ok (.invokevirtual 265, 3) := by decide +kernel
theorem d5_execute_128 : decode b5_execute 128 = .ok (.pop, 1) := by decide +kernel
theorem d5_execute_129 : decode b5_execute 129 = .ok (.goto 39, 3) := by decide +kernel
theorem d5_execute_132 : decode b5_execute 132 = .ok (.aload_n 0, 1) := by decide +kernel
theorem d5_execute_133 : decode b5_execute 133 = .ok (.iload_n 2, 1) := by decide +kernel
theorem d5_execute_134 : decode b5_execute 134 = .ok (.iload_n 3, 1) := by decide +kernel
theorem d5_execute_135 : decode b5_execute 135 = .ok (.invokevirtual 303, 3) := by decide +kernel
theorem d5_execute_138 : decode b5_execute 138 = .ok (.pop, 1) := by decide +kernel
theorem d5_execute_139 : decode b5_execute 139 = .ok (.goto 29, 3) := by decide +kernel
theorem d5_execute_142 : decode b5_execute 142 = .ok (.aload_n 0, 1) := by decide +kernel
theorem d5_execute_143 : decode b5_execute 143 = .ok (.getfield 36, 3) := by decide +kernel
theorem d5_execute_146 : decode b5_execute 146 = .ok (.iload_n 2, 1) := by decide +kernel
theorem d5_execute_147 : decode b5_execute 147 = .ok (.invokevirtual 306, 3) := by decide +kernel
theorem d5_execute_150 : decode b5_execute 150 = .ok (.goto 18, 3) := by decide +kernel
theorem d5_execute_153 : decode b5_execute 153 = .ok (.aload_n 0, 1) := by decide +kernel
theorem d5_execute_154 : decode b5_execute 154 = .ok (.iload_n 2, 1) := by decide +kernel
theorem d5_execute_155 : decode b5_execute 155 = .ok (.invokevirtual 309, 3) := by decide +kernel
theorem d5_execute_158 : decode b5_execute 158 = .ok (.pop, 1) := by decide +kernel
theorem d5_execute_159 : decode b5_execute 159 = .ok (.goto 9, 3) := by decide +kernel
theorem d5_execute_162 : decode b5_execute 162 = .ok (.aload_n 0, 1) := by decide +kernel
theorem d5_execute_163 : decode b5_execute 163 = .ok (.iload_n 2, 1) := by decide +kernel
theorem d5_execute_164 : decode b5_execute 164 = .ok (.invokevirtual 315, 3) := by decide +kernel
theorem d5_execute_167 : decode b5_execute 167 = .ok (.pop, 1) := by decide +kernel
theorem d5_execute_168 : decode b5_execute 168 = .ok (.return_, 1) := by decide +kernel
abbrev b5_writeByte : ByteArray := prog_1_method_118_code
def y5_writeByte : MethodName := ⟨"ChannelSchedule", "writeByte", "(I)V"⟩
theorem w5_writeByte : YV y5_writeByte b5_writeByte 2 none 1 := ⟨LW_i 647 (by decide +kernel) (by decide +kernel), LW_i 18 (by decide +kernel) (by decide +kernel), LW_i 110 (by decide +kernel) (by decide +kernel), LW_i 648 (by decide +kernel) (by decide +kernel), by decide +kernel, by decide +kernel⟩
theorem d5_writeByte_0 : decode b5_writeByte 0 = .ok (.aload_n 0, 1) := by decide +kernel
theorem d5_writeByte_1 : decode b5_writeByte 1 = .ok (.getfield 69, 3) := by decide +kernel
theorem d5_writeByte_4 : decode b5_writeByte 4 = .ok (.aload_n 0, 1) := by decide +kernel
theorem d5_writeByte_5 : decode b5_writeByte 5 = .ok (.getfield 65, 3) := by decide +kernel
theorem d5_writeByte_8 : decode b5_writeByte 8 = .ok (.arraylength, 1) := by decide +kernel
theorem d5_writeByte_9 : decode b5_writeByte 9 = .ok (.if_icmp .ge 24, 3) := by decide +kernel
theorem d5_writeByte_12 : decode b5_writeByte 12 = .ok (.aload_n 0, 1) := by decide +kernel
theorem d5_writeByte_13 : decode b5_writeByte 13 = .ok (.getfield 65, 3) := by decide +kernel
theorem d5_writeByte_16 : decode b5_writeByte 16 = .ok (.aload_n 0, 1) := by decide +kernel
theorem d5_writeByte_17 : decode b5_writeByte 17 = .ok (.getfield 69, 3) := by decide +kernel
theorem d5_writeByte_20 : decode b5_writeByte 20 = .ok (.iload_n 1, 1) := by decide +kernel
theorem d5_writeByte_21 : decode b5_writeByte 21 = .ok (.i2b, 1) := by decide +kernel
theorem d5_writeByte_22 : decode b5_writeByte 22 = .ok (.bastore, 1) := by decide +kernel
theorem d5_writeByte_23 : decode b5_writeByte 23 = .ok (.aload_n 0, 1) := by decide +kernel
theorem d5_writeByte_24 : decode b5_writeByte 24 = .ok (.dup, 1) := by decide +kernel
theorem d5_writeByte_25 : decode b5_writeByte 25 = .ok (.getfield 69, 3) := by decide +kernel
theorem d5_writeByte_28 : decode b5_writeByte 28 = .ok (.iconst 1, 1) := by decide +kernel
theorem d5_writeByte_29 : decode b5_writeByte 29 = .ok (.iadd, 1) := by decide +kernel
theorem d5_writeByte_30 : decode b5_writeByte 30 = .ok (.putfield 69, 3) := by decide +kernel
theorem d5_writeByte_33 : decode b5_writeByte 33 = .ok (.return_, 1) := by decide +kernel
abbrev b5_writeNumber : ByteArray := prog_1_method_119_code
def y5_writeNumber : MethodName := ⟨"ChannelSchedule", "writeNumber", "(I)V"⟩
theorem w5_writeNumber : YV y5_writeNumber b5_writeNumber 3 none 1 := ⟨LW_i 651 (by decide +kernel) (by decide +kernel), LW_i 19 (by decide +kernel) (by decide +kernel), LW_i 110 (by decide +kernel) (by decide +kernel), LW_i 652 (by decide +kernel) (by decide +kernel), by decide +kernel, by decide +kernel⟩
theorem d5_writeNumber_0 : decode b5_writeNumber 0 = .ok (.sipush 1000, 3) := by decide +kernel
theorem d5_writeNumber_3 : decode b5_writeNumber 3 = .ok (.istore_n 2, 1) := by decide +kernel
theorem d5_writeNumber_4 : decode b5_writeNumber 4 = .ok (.iload_n 2, 1) := by decide +kernel
theorem d5_writeNumber_5 : decode b5_writeNumber 5 = .ok (.ifCond .le 34, 3) := by decide +kernel
theorem d5_writeNumber_8 : decode b5_writeNumber 8 = .ok (.iload_n 1, 1) := by decide +kernel
theorem d5_writeNumber_9 : decode b5_writeNumber 9 = .ok (.iload_n 2, 1) := by decide +kernel
theorem d5_writeNumber_10 : decode b5_writeNumber 10 = .ok (.if_icmp .ge 8, 3) := by decide +kernel
theorem d5_writeNumber_13 : decode b5_writeNumber 13 = .ok (.iload_n 2, 1) := by decide +kernel
theorem d5_writeNumber_14 : decode b5_writeNumber 14 = .ok (.iconst 1, 1) := by decide +kernel
theorem d5_writeNumber_15 : decode b5_writeNumber 15 = .ok (.if_icmp .ne 16, 3) := by decide +kernel
theorem d5_writeNumber_18 : decode b5_writeNumber 18 = .ok (.aload_n 0, 1) := by decide +kernel
theorem d5_writeNumber_19 : decode b5_writeNumber 19 = .ok (.bipush 48, 2) := by decide +kernel
theorem d5_writeNumber_21 : decode b5_writeNumber 21 = .ok (.iload_n 1, 1) := by decide +kernel
theorem d5_writeNumber_22 : decode b5_writeNumber 22 = .ok (.iload_n 2, 1) := by decide +kernel
theorem d5_writeNumber_23 : decode b5_writeNumber 23 = .ok (.idiv, 1) := by decide +kernel
theorem d5_writeNumber_24 : decode b5_writeNumber 24 = .ok (.bipush 10, 2) := by decide +kernel
theorem d5_writeNumber_26 : decode b5_writeNumber 26 = .ok (.irem, 1) := by decide +kernel
theorem d5_writeNumber_27 : decode b5_writeNumber 27 = .ok (.iadd, 1) := by decide +kernel
theorem d5_writeNumber_28 : decode b5_writeNumber 28 = .ok (.invokevirtual 330, 3) := by decide +kernel
theorem d5_writeNumber_31 : decode b5_writeNumber 31 = .ok (.iload_n 2, 1) := by decide +kernel
theorem d5_writeNumber_32 : decode b5_writeNumber 32 = .ok (.bipush 10, 2) := by decide +kernel
theorem d5_writeNumber_34 : decode b5_writeNumber 34 = .ok (.idiv, 1) := by decide +kernel
theorem d5_writeNumber_35 : decode b5_writeNumber 35 = .ok (.istore_n 2, 1) := by decide +kernel
theorem d5_writeNumber_36 : decode b5_writeNumber 36 = .ok (.goto (-32), 3) := by decide +kernel
theorem d5_writeNumber_39 : decode b5_writeNumber 39 = .ok (.return_, 1) := by decide +kernel
theorem l5_1 : .methodLink "ChannelSchedule" 1 ⟨"java/lang/Object", "<init>", "()V"⟩ ∈ LW := LW_i 134 (by decide +kernel) (by decide +kernel)
theorem l5_9 : .methodLink "ChannelSchedule" 9 y0_init ∈ LW := LW_i 139 (by decide +kernel) (by decide +kernel)
theorem l5_18 : .methodLink "ChannelSchedule" 18 y2_init ∈ LW := LW_i 179 (by decide +kernel) (by decide +kernel)
theorem l5_25 : .methodLink "ChannelSchedule" 25 y3_init ∈ LW := LW_i 212 (by decide +kernel) (by decide +kernel)
theorem l5_35 : .methodLink "ChannelSchedule" 35 y1_init ∈ LW := LW_i 267 (by decide +kernel) (by decide +kernel)
theorem l5_74 : .methodLink "ChannelSchedule" 74 ⟨"java/lang/String", "length", "()I"⟩ ∈ LW := LW_i 334 (by decide +kernel) (by decide +kernel)
theorem l5_80 : .methodLink "ChannelSchedule" 80 ⟨"java/lang/String", "charAt", "(I)C"⟩ ∈ LW := LW_i 344 (by decide +kernel) (by decide +kernel)
theorem l5_84 : .methodLink "ChannelSchedule" 84 y0_putByte ∈ LW := LW_i 382 (by decide +kernel) (by decide +kernel)
theorem l5_88 : .methodLink "ChannelSchedule" 88 y5_readSetup ∈ LW := LW_i 386 (by decide +kernel) (by decide +kernel)
theorem l5_92 : .methodLink "ChannelSchedule" 92 y5_startWithDraft ∈ LW := LW_i 456 (by decide +kernel) (by decide +kernel)
theorem l5_97 : .methodLink "ChannelSchedule" 97 y5_requireState ∈ LW := LW_i 661 (by decide +kernel) (by decide +kernel)
theorem l5_101 : .methodLink "ChannelSchedule" 101 y0_putFour ∈ LW := LW_i 728 (by decide +kernel) (by decide +kernel)
theorem l5_104 : .methodLink "ChannelSchedule" 104 y5_isWithin ∈ LW := LW_i 741 (by decide +kernel) (by decide +kernel)
theorem l5_108 : .methodLink "ChannelSchedule" 108 y5_requireArgument ∈ LW := LW_i 744 (by decide +kernel) (by decide +kernel)
theorem l5_132 : .methodLink "ChannelSchedule" 132 y5_isShip ∈ LW := LW_i 777 (by decide +kernel) (by decide +kernel)
theorem l5_136 : .methodLink "ChannelSchedule" 136 y5_requireIndex ∈ LW := LW_i 784 (by decide +kernel) (by decide +kernel)
theorem l5_139 : .methodLink "ChannelSchedule" 139 y5_transitOf ∈ LW := LW_i 566 (by decide +kernel) (by decide +kernel)
theorem l5_158 : .methodLink "ChannelSchedule" 158 y5_isNumberBelow ∈ LW := LW_i 781 (by decide +kernel) (by decide +kernel)
theorem l5_168 : .methodLink "ChannelSchedule" 168 y3_shipNamed ∈ LW := LW_i 443 (by decide +kernel) (by decide +kernel)
theorem l5_172 : .methodLink "ChannelSchedule" 172 y5_requireElement ∈ LW := LW_i 831 (by decide +kernel) (by decide +kernel)
theorem l5_178 : .methodLink "ChannelSchedule" 178 y5_isBooking ∈ LW := LW_i 856 (by decide +kernel) (by decide +kernel)
theorem l5_192 : .methodLink "ChannelSchedule" 192 y5_countEmpty ∈ LW := LW_i 622 (by decide +kernel) (by decide +kernel)
theorem l5_196 : .methodLink "ChannelSchedule" 196 y5_gapBefore ∈ LW := LW_i 626 (by decide +kernel) (by decide +kernel)
theorem l5_200 : .methodLink "ChannelSchedule" 200 ⟨"java/lang/Math", "max", "(II)I"⟩ ∈ LW := LW_i 547 (by decide +kernel) (by decide +kernel)
theorem l5_205 : .methodLink "ChannelSchedule" 205 y5_clashes ∈ LW := LW_i 574 (by decide +kernel) (by decide +kernel)
theorem l5_209 : .methodLink "ChannelSchedule" 209 y5_firstClash ∈ LW := LW_i 570 (by decide +kernel) (by decide +kernel)
theorem l5_213 : .methodLink "ChannelSchedule" 213 y5_leastFreeStart ∈ LW := LW_i 937 (by decide +kernel) (by decide +kernel)
theorem l5_217 : .methodLink "ChannelSchedule" 217 ⟨"java/lang/Math", "min", "(II)I"⟩ ∈ LW := LW_i 630 (by decide +kernel) (by decide +kernel)
theorem l5_220 : .methodLink "ChannelSchedule" 220 y5_greatestFreeStart ∈ LW := LW_i 948 (by decide +kernel) (by decide +kernel)
theorem l5_224 : .methodLink "ChannelSchedule" 224 y5_freeBefore ∈ LW := LW_i 578 (by decide +kernel) (by decide +kernel)
theorem l5_228 : .methodLink "ChannelSchedule" 228 y5_hindranceToMove ∈ LW := LW_i 973 (by decide +kernel) (by decide +kernel)
theorem l5_234 : .methodLink "ChannelSchedule" 234 y5_isRequest ∈ LW := LW_i 984 (by decide +kernel) (by decide +kernel)
theorem l5_249 : .methodLink "ChannelSchedule" 249 y5_servingStart ∈ LW := LW_i 1016 (by decide +kernel) (by decide +kernel)
theorem l5_252 : .methodLink "ChannelSchedule" 252 y5_bestSelection ∈ LW := LW_i 558 (by decide +kernel) (by decide +kernel)
theorem l5_255 : .methodLink "ChannelSchedule" 255 y5_valueOf ∈ LW := LW_i 598 (by decide +kernel) (by decide +kernel)
theorem l5_258 : .methodLink "ChannelSchedule" 258 y5_bitOf ∈ LW := LW_i 586 (by decide +kernel) (by decide +kernel)
theorem l5_261 : .methodLink "ChannelSchedule" 261 y1_copyFrom ∈ LW := LW_i 1038 (by decide +kernel) (by decide +kernel)
theorem l5_265 : .methodLink "ChannelSchedule" 265 y5_cancelNow ∈ LW := LW_i 1050 (by decide +kernel) (by decide +kernel)
theorem l5_277 : .methodLink "ChannelSchedule" 277 y5_bookFault ∈ LW := LW_i 1088 (by decide +kernel) (by decide +kernel)
theorem l5_281 : .methodLink "ChannelSchedule" 281 y5_refuse ∈ LW := LW_i 1092 (by decide +kernel) (by decide +kernel)
theorem l5_284 : .methodLink "ChannelSchedule" 284 y5_remember ∈ LW := LW_i 1095 (by decide +kernel) (by decide +kernel)
theorem l5_287 : .methodLink "ChannelSchedule" 287 y5_bookNow ∈ LW := LW_i 1066 (by decide +kernel) (by decide +kernel)
theorem l5_290 : .methodLink "ChannelSchedule" 290 y5_requestFault ∈ LW := LW_i 1106 (by decide +kernel) (by decide +kernel)
theorem l5_294 : .methodLink "ChannelSchedule" 294 y5_requestNow ∈ LW := LW_i 1110 (by decide +kernel) (by decide +kernel)
theorem l5_297 : .methodLink "ChannelSchedule" 297 y5_cancelFault ∈ LW := LW_i 1125 (by decide +kernel) (by decide +kernel)
theorem l5_300 : .methodLink "ChannelSchedule" 300 y5_moveFault ∈ LW := LW_i 1136 (by decide +kernel) (by decide +kernel)
theorem l5_303 : .methodLink "ChannelSchedule" 303 y5_moveNow ∈ LW := LW_i 1140 (by decide +kernel) (by decide +kernel)
theorem l5_306 : .methodLink "ChannelSchedule" 306 y1_removeRequest ∈ LW := LW_i 1062 (by decide +kernel) (by decide +kernel)
theorem l5_309 : .methodLink "ChannelSchedule" 309 y5_freezeNow ∈ LW := LW_i 1158 (by decide +kernel) (by decide +kernel)
theorem l5_312 : .methodLink "ChannelSchedule" 312 y5_advanceFault ∈ LW := LW_i 1169 (by decide +kernel) (by decide +kernel)
theorem l5_315 : .methodLink "ChannelSchedule" 315 y5_advanceNow ∈ LW := LW_i 1173 (by decide +kernel) (by decide +kernel)
theorem l5_318 : .methodLink "ChannelSchedule" 318 y5_readScript ∈ LW := LW_i 1184 (by decide +kernel) (by decide +kernel)
theorem l5_324 : .methodLink "ChannelSchedule" 324 y5_faultOf ∈ LW := LW_i 1209 (by decide +kernel) (by decide +kernel)
theorem l5_327 : .methodLink "ChannelSchedule" 327 y5_execute ∈ LW := LW_i 1213 (by decide +kernel) (by decide +kernel)
theorem l5_330 : .methodLink "ChannelSchedule" 330 y5_writeByte ∈ LW := LW_i 645 (by decide +kernel) (by decide +kernel)
theorem l5_333 : .methodLink "ChannelSchedule" 333 y5_writeNumber ∈ LW := LW_i 649 (by decide +kernel) (by decide +kernel)
theorem l5_338 : .methodLink "ChannelSchedule" 338 ⟨"java/lang/IndexOutOfBoundsException", "<init>", "()V"⟩ ∈ LW := LW_i 796 (by decide +kernel) (by decide +kernel)
theorem l5_341 : .methodLink "ChannelSchedule" 341 ⟨"java/lang/IllegalArgumentException", "<init>", "()V"⟩ ∈ LW := LW_i 756 (by decide +kernel) (by decide +kernel)
theorem l5_344 : .methodLink "ChannelSchedule" 344 ⟨"java/lang/IllegalStateException", "<init>", "()V"⟩ ∈ LW := LW_i 706 (by decide +kernel) (by decide +kernel)
theorem l5_347 : .methodLink "ChannelSchedule" 347 ⟨"java/util/NoSuchElementException", "<init>", "()V"⟩ ∈ LW := LW_i 843 (by decide +kernel) (by decide +kernel)
theorem l5_351 : .methodLink "ChannelSchedule" 351 y5_freeAfter ∈ LW := LW_i 582 (by decide +kernel) (by decide +kernel)
theorem l5_354 : .methodLink "ChannelSchedule" 354 y5_startToServe ∈ LW := LW_i 1020 (by decide +kernel) (by decide +kernel)
theorem l5_357 : .methodLink "ChannelSchedule" 357 y5_findExcluded ∈ LW := LW_i 562 (by decide +kernel) (by decide +kernel)
theorem l5_360 : .methodLink "ChannelSchedule" 360 y5_isSelection ∈ LW := LW_i 594 (by decide +kernel) (by decide +kernel)
theorem l5_363 : .methodLink "ChannelSchedule" 363 y5_requestsClash ∈ LW := LW_i 590 (by decide +kernel) (by decide +kernel)
theorem l5_366 : .methodLink "ChannelSchedule" 366 y1_insertBooking ∈ LW := LW_i 1070 (by decide +kernel) (by decide +kernel)
theorem l5_370 : .methodLink "ChannelSchedule" 370 y1_addRequest ∈ LW := LW_i 1114 (by decide +kernel) (by decide +kernel)
theorem l5_373 : .methodLink "ChannelSchedule" 373 y1_removeBooking ∈ LW := LW_i 1054 (by decide +kernel) (by decide +kernel)
theorem l5_376 : .methodLink "ChannelSchedule" 376 y5_serveWaiting ∈ LW := LW_i 1058 (by decide +kernel) (by decide +kernel)
theorem l5_379 : .methodLink "ChannelSchedule" 379 y0_startReading ∈ LW := LW_i 390 (by decide +kernel) (by decide +kernel)
theorem l5_382 : .methodLink "ChannelSchedule" 382 y5_readSettings ∈ LW := LW_i 405 (by decide +kernel) (by decide +kernel)
theorem l5_388 : .methodLink "ChannelSchedule" 388 y5_readShip ∈ LW := LW_i 432 (by decide +kernel) (by decide +kernel)
theorem l5_393 : .methodLink "ChannelSchedule" 393 y0_takeWord ∈ LW := LW_i 410 (by decide +kernel) (by decide +kernel)
theorem l5_397 : .methodLink "ChannelSchedule" 397 y0_takeNumber ∈ LW := LW_i 424 (by decide +kernel) (by decide +kernel)
theorem l5_404 : .methodLink "ChannelSchedule" 404 y0_takeSemicolon ∈ LW := LW_i 428 (by decide +kernel) (by decide +kernel)
theorem l5_409 : .methodLink "ChannelSchedule" 409 y0_isWord ∈ LW := LW_i 437 (by decide +kernel) (by decide +kernel)
theorem l5_412 : .methodLink "ChannelSchedule" 412 y0_fail ∈ LW := LW_i 438 (by decide +kernel) (by decide +kernel)
theorem l5_415 : .methodLink "ChannelSchedule" 415 y5_readNewName ∈ LW := LW_i 439 (by decide +kernel) (by decide +kernel)
theorem l5_425 : .methodLink "ChannelSchedule" 425 y4_takeName ∈ LW := LW_i 451 (by decide +kernel) (by decide +kernel)
theorem l5_429 : .methodLink "ChannelSchedule" 429 y0_readToken ∈ LW := LW_i 455 (by decide +kernel) (by decide +kernel)
theorem l5_432 : .methodLink "ChannelSchedule" 432 y1_startAnew ∈ LW := LW_i 460 (by decide +kernel) (by decide +kernel)
theorem l5_435 : .methodLink "ChannelSchedule" 435 y5_readCommand ∈ LW := LW_i 1188 (by decide +kernel) (by decide +kernel)
theorem l5_438 : .methodLink "ChannelSchedule" 438 y5_verbRead ∈ LW := LW_i 1192 (by decide +kernel) (by decide +kernel)
theorem l5_444 : .methodLink "ChannelSchedule" 444 y5_readShipAndWay ∈ LW := LW_i 1203 (by decide +kernel) (by decide +kernel)
theorem l0_3 : .methodLink "ChannelSchedule$Input" 3 ⟨"java/lang/Object", "<init>", "()V"⟩ ∈ LW := LW_i 142 (by decide +kernel) (by decide +kernel)
theorem l0_37 : .methodLink "ChannelSchedule$Input" 37 y0_putByte ∈ LW := LW_i 732 (by decide +kernel) (by decide +kernel)
theorem l0_41 : .methodLink "ChannelSchedule$Input" 41 y0_readToken ∈ LW := LW_i 394 (by decide +kernel) (by decide +kernel)
theorem l0_44 : .methodLink "ChannelSchedule$Input" 44 y0_kindOf ∈ LW := LW_i 398 (by decide +kernel) (by decide +kernel)
theorem l0_48 : .methodLink "ChannelSchedule$Input" 48 y0_readRun ∈ LW := LW_i 401 (by decide +kernel) (by decide +kernel)
theorem l0_51 : .methodLink "ChannelSchedule$Input" 51 ⟨"java/lang/String", "length", "()I"⟩ ∈ LW := LW_i 418 (by decide +kernel) (by decide +kernel)
theorem l0_56 : .methodLink "ChannelSchedule$Input" 56 ⟨"java/lang/String", "charAt", "(I)C"⟩ ∈ LW := LW_i 419 (by decide +kernel) (by decide +kernel)
theorem l0_60 : .methodLink "ChannelSchedule$Input" 60 y0_isWord ∈ LW := LW_i 414 (by decide +kernel) (by decide +kernel)
theorem l0_64 : .methodLink "ChannelSchedule$Input" 64 y0_fail ∈ LW := LW_i 420 (by decide +kernel) (by decide +kernel)
theorem l1_3 : .methodLink "ChannelSchedule$Plan" 3 ⟨"java/lang/Object", "<init>", "()V"⟩ ∈ LW := LW_i 270 (by decide +kernel) (by decide +kernel)
theorem l1_59 : .methodLink "ChannelSchedule$Plan" 59 y1_putBooking ∈ LW := LW_i 1042 (by decide +kernel) (by decide +kernel)
theorem l1_63 : .methodLink "ChannelSchedule$Plan" 63 y1_putRequest ∈ LW := LW_i 1046 (by decide +kernel) (by decide +kernel)
theorem l2_3 : .methodLink "ChannelSchedule$Script" 3 ⟨"java/lang/Object", "<init>", "()V"⟩ ∈ LW := LW_i 182 (by decide +kernel) (by decide +kernel)
theorem l3_3 : .methodLink "ChannelSchedule$Setup" 3 ⟨"java/lang/Object", "<init>", "()V"⟩ ∈ LW := LW_i 215 (by decide +kernel) (by decide +kernel)
theorem l3_30 : .methodLink "ChannelSchedule$Setup" 30 y4_init ∈ LW := LW_i 219 (by decide +kernel) (by decide +kernel)
theorem l3_31 : .methodLink "ChannelSchedule$Setup" 31 y4_hasName ∈ LW := LW_i 447 (by decide +kernel) (by decide +kernel)
theorem l4_3 : .methodLink "ChannelSchedule$Ship" 3 ⟨"java/lang/Object", "<init>", "()V"⟩ ∈ LW := LW_i 222 (by decide +kernel) (by decide +kernel)
theorem f5_10 : .fieldLink "ChannelSchedule" 10 "ChannelSchedule" "input" "LChannelSchedule$Input;" ∈ LW := LW_i 464 (by decide +kernel) (by decide +kernel)
theorem f5_19 : .fieldLink "ChannelSchedule" 19 "ChannelSchedule" "script" "LChannelSchedule$Script;" ∈ LW := LW_i 465 (by decide +kernel) (by decide +kernel)
theorem f5_26 : .fieldLink "ChannelSchedule" 26 "ChannelSchedule" "setup" "LChannelSchedule$Setup;" ∈ LW := LW_i 466 (by decide +kernel) (by decide +kernel)
theorem f5_30 : .fieldLink "ChannelSchedule" 30 "ChannelSchedule" "draft" "LChannelSchedule$Setup;" ∈ LW := LW_i 467 (by decide +kernel) (by decide +kernel)
theorem f5_36 : .fieldLink "ChannelSchedule" 36 "ChannelSchedule" "plan" "LChannelSchedule$Plan;" ∈ LW := LW_i 468 (by decide +kernel) (by decide +kernel)
theorem f5_40 : .fieldLink "ChannelSchedule" 40 "ChannelSchedule" "kept" "LChannelSchedule$Plan;" ∈ LW := LW_i 469 (by decide +kernel) (by decide +kernel)
theorem f5_43 : .fieldLink "ChannelSchedule" 43 "ChannelSchedule" "past" "[LChannelSchedule$Plan;" ∈ LW := LW_i 470 (by decide +kernel) (by decide +kernel)
theorem f5_47 : .fieldLink "ChannelSchedule" 47 "ChannelSchedule" "latestPast" "I" ∈ LW := LW_i 471 (by decide +kernel) (by decide +kernel)
theorem f5_51 : .fieldLink "ChannelSchedule" 51 "ChannelSchedule" "pastCount" "I" ∈ LW := LW_i 472 (by decide +kernel) (by decide +kernel)
theorem f5_54 : .fieldLink "ChannelSchedule" 54 "ChannelSchedule" "saved" "[LChannelSchedule$Plan;" ∈ LW := LW_i 473 (by decide +kernel) (by decide +kernel)
theorem f5_57 : .fieldLink "ChannelSchedule" 57 "ChannelSchedule" "isSaved" "[Z" ∈ LW := LW_i 474 (by decide +kernel) (by decide +kernel)
theorem f5_61 : .fieldLink "ChannelSchedule" 61 "ChannelSchedule" "excluded" "[I" ∈ LW := LW_i 475 (by decide +kernel) (by decide +kernel)
theorem f5_65 : .fieldLink "ChannelSchedule" 65 "ChannelSchedule" "output" "[B" ∈ LW := LW_i 476 (by decide +kernel) (by decide +kernel)
theorem f5_69 : .fieldLink "ChannelSchedule" 69 "ChannelSchedule" "outputLength" "I" ∈ LW := LW_i 477 (by decide +kernel) (by decide +kernel)
theorem f5_95 : .fieldLink "ChannelSchedule" 95 "ChannelSchedule$Input" "length" "I" ∈ LW := LW_i 146 (by decide +kernel) (by decide +kernel)
theorem f5_111 : .fieldLink "ChannelSchedule" 111 "ChannelSchedule$Setup" "shipCount" "I" ∈ LW := LW_i 251 (by decide +kernel) (by decide +kernel)
theorem f5_114 : .fieldLink "ChannelSchedule" 114 "ChannelSchedule$Input" "errorCode" "I" ∈ LW := LW_i 148 (by decide +kernel) (by decide +kernel)
theorem f5_117 : .fieldLink "ChannelSchedule" 117 "ChannelSchedule$Input" "errorPosition" "I" ∈ LW := LW_i 150 (by decide +kernel) (by decide +kernel)
theorem f5_120 : .fieldLink "ChannelSchedule" 120 "ChannelSchedule$Setup" "headway" "I" ∈ LW := LW_i 245 (by decide +kernel) (by decide +kernel)
theorem f5_123 : .fieldLink "ChannelSchedule" 123 "ChannelSchedule$Setup" "clearance" "I" ∈ LW := LW_i 247 (by decide +kernel) (by decide +kernel)
theorem f5_126 : .fieldLink "ChannelSchedule" 126 "ChannelSchedule$Plan" "thickness" "I" ∈ LW := LW_i 272 (by decide +kernel) (by decide +kernel)
theorem f5_129 : .fieldLink "ChannelSchedule" 129 "ChannelSchedule$Plan" "minute" "I" ∈ LW := LW_i 274 (by decide +kernel) (by decide +kernel)
theorem f5_143 : .fieldLink "ChannelSchedule" 143 "ChannelSchedule$Setup" "ships" "[LChannelSchedule$Ship;" ∈ LW := LW_i 253 (by decide +kernel) (by decide +kernel)
theorem f5_147 : .fieldLink "ChannelSchedule" 147 "ChannelSchedule$Ship" "iceClass" "I" ∈ LW := LW_i 230 (by decide +kernel) (by decide +kernel)
theorem f5_152 : .fieldLink "ChannelSchedule" 152 "ChannelSchedule$Ship" "weight" "I" ∈ LW := LW_i 232 (by decide +kernel) (by decide +kernel)
theorem f5_155 : .fieldLink "ChannelSchedule" 155 "ChannelSchedule$Ship" "nameLength" "I" ∈ LW := LW_i 226 (by decide +kernel) (by decide +kernel)
theorem f5_162 : .fieldLink "ChannelSchedule" 162 "ChannelSchedule$Ship" "name" "[B" ∈ LW := LW_i 224 (by decide +kernel) (by decide +kernel)
theorem f5_165 : .fieldLink "ChannelSchedule" 165 "ChannelSchedule$Input" "bytes" "[B" ∈ LW := LW_i 144 (by decide +kernel) (by decide +kernel)
theorem f5_175 : .fieldLink "ChannelSchedule" 175 "ChannelSchedule$Plan" "bookings" "I" ∈ LW := LW_i 282 (by decide +kernel) (by decide +kernel)
theorem f5_181 : .fieldLink "ChannelSchedule" 181 "ChannelSchedule$Plan" "ships" "[I" ∈ LW := LW_i 284 (by decide +kernel) (by decide +kernel)
theorem f5_183 : .fieldLink "ChannelSchedule" 183 "ChannelSchedule$Plan" "starts" "[I" ∈ LW := LW_i 288 (by decide +kernel) (by decide +kernel)
theorem f5_186 : .fieldLink "ChannelSchedule" 186 "ChannelSchedule$Plan" "ends" "[I" ∈ LW := LW_i 290 (by decide +kernel) (by decide +kernel)
theorem f5_189 : .fieldLink "ChannelSchedule" 189 "ChannelSchedule$Plan" "inbound" "[Z" ∈ LW := LW_i 286 (by decide +kernel) (by decide +kernel)
theorem f5_231 : .fieldLink "ChannelSchedule" 231 "ChannelSchedule$Plan" "requests" "I" ∈ LW := LW_i 292 (by decide +kernel) (by decide +kernel)
theorem f5_237 : .fieldLink "ChannelSchedule" 237 "ChannelSchedule$Plan" "waitingShips" "[I" ∈ LW := LW_i 294 (by decide +kernel) (by decide +kernel)
theorem f5_240 : .fieldLink "ChannelSchedule" 240 "ChannelSchedule$Plan" "waitingInbound" "[Z" ∈ LW := LW_i 296 (by decide +kernel) (by decide +kernel)
theorem f5_243 : .fieldLink "ChannelSchedule" 243 "ChannelSchedule$Plan" "earliest" "[I" ∈ LW := LW_i 298 (by decide +kernel) (by decide +kernel)
theorem f5_246 : .fieldLink "ChannelSchedule" 246 "ChannelSchedule$Plan" "latest" "[I" ∈ LW := LW_i 300 (by decide +kernel) (by decide +kernel)
theorem f5_268 : .fieldLink "ChannelSchedule" 268 "ChannelSchedule$Plan" "made" "I" ∈ LW := LW_i 276 (by decide +kernel) (by decide +kernel)
theorem f5_271 : .fieldLink "ChannelSchedule" 271 "ChannelSchedule$Plan" "cancelled" "I" ∈ LW := LW_i 278 (by decide +kernel) (by decide +kernel)
theorem f5_274 : .fieldLink "ChannelSchedule" 274 "ChannelSchedule$Plan" "served" "I" ∈ LW := LW_i 280 (by decide +kernel) (by decide +kernel)
theorem f5_321 : .fieldLink "ChannelSchedule" 321 "ChannelSchedule$Script" "count" "I" ∈ LW := LW_i 184 (by decide +kernel) (by decide +kernel)
theorem f5_348 : .fieldLink "ChannelSchedule" 348 "ChannelSchedule$Ship" "time" "I" ∈ LW := LW_i 228 (by decide +kernel) (by decide +kernel)
theorem f5_385 : .fieldLink "ChannelSchedule" 385 "ChannelSchedule$Input" "kind" "I" ∈ LW := LW_i 152 (by decide +kernel) (by decide +kernel)
theorem f5_400 : .fieldLink "ChannelSchedule" 400 "ChannelSchedule$Input" "number" "I" ∈ LW := LW_i 158 (by decide +kernel) (by decide +kernel)
theorem f5_403 : .fieldLink "ChannelSchedule" 403 "ChannelSchedule$Setup" "thickness" "I" ∈ LW := LW_i 249 (by decide +kernel) (by decide +kernel)
theorem f5_419 : .fieldLink "ChannelSchedule" 419 "ChannelSchedule$Input" "at" "I" ∈ LW := LW_i 156 (by decide +kernel) (by decide +kernel)
theorem f5_422 : .fieldLink "ChannelSchedule" 422 "ChannelSchedule$Input" "tokenStart" "I" ∈ LW := LW_i 154 (by decide +kernel) (by decide +kernel)
theorem f5_441 : .fieldLink "ChannelSchedule" 441 "ChannelSchedule$Script" "verbs" "[I" ∈ LW := LW_i 186 (by decide +kernel) (by decide +kernel)
theorem f5_447 : .fieldLink "ChannelSchedule" 447 "ChannelSchedule$Script" "firsts" "[I" ∈ LW := LW_i 192 (by decide +kernel) (by decide +kernel)
theorem f5_450 : .fieldLink "ChannelSchedule" 450 "ChannelSchedule$Script" "seconds" "[I" ∈ LW := LW_i 194 (by decide +kernel) (by decide +kernel)
theorem f5_467 : .fieldLink "ChannelSchedule" 467 "ChannelSchedule$Script" "ships" "[I" ∈ LW := LW_i 188 (by decide +kernel) (by decide +kernel)
theorem f5_472 : .fieldLink "ChannelSchedule" 472 "ChannelSchedule$Script" "inbound" "[Z" ∈ LW := LW_i 190 (by decide +kernel) (by decide +kernel)
theorem f0_9 : .fieldLink "ChannelSchedule$Input" 9 "ChannelSchedule$Input" "bytes" "[B" ∈ LW := LW_i 143 (by decide +kernel) (by decide +kernel)
theorem f0_15 : .fieldLink "ChannelSchedule$Input" 15 "ChannelSchedule$Input" "length" "I" ∈ LW := LW_i 145 (by decide +kernel) (by decide +kernel)
theorem f0_19 : .fieldLink "ChannelSchedule$Input" 19 "ChannelSchedule$Input" "errorCode" "I" ∈ LW := LW_i 147 (by decide +kernel) (by decide +kernel)
theorem f0_22 : .fieldLink "ChannelSchedule$Input" 22 "ChannelSchedule$Input" "errorPosition" "I" ∈ LW := LW_i 149 (by decide +kernel) (by decide +kernel)
theorem f0_25 : .fieldLink "ChannelSchedule$Input" 25 "ChannelSchedule$Input" "kind" "I" ∈ LW := LW_i 151 (by decide +kernel) (by decide +kernel)
theorem f0_28 : .fieldLink "ChannelSchedule$Input" 28 "ChannelSchedule$Input" "tokenStart" "I" ∈ LW := LW_i 153 (by decide +kernel) (by decide +kernel)
theorem f0_31 : .fieldLink "ChannelSchedule$Input" 31 "ChannelSchedule$Input" "at" "I" ∈ LW := LW_i 155 (by decide +kernel) (by decide +kernel)
theorem f0_34 : .fieldLink "ChannelSchedule$Input" 34 "ChannelSchedule$Input" "number" "I" ∈ LW := LW_i 157 (by decide +kernel) (by decide +kernel)
theorem f1_9 : .fieldLink "ChannelSchedule$Plan" 9 "ChannelSchedule$Plan" "thickness" "I" ∈ LW := LW_i 271 (by decide +kernel) (by decide +kernel)
theorem f1_15 : .fieldLink "ChannelSchedule$Plan" 15 "ChannelSchedule$Plan" "minute" "I" ∈ LW := LW_i 273 (by decide +kernel) (by decide +kernel)
theorem f1_18 : .fieldLink "ChannelSchedule$Plan" 18 "ChannelSchedule$Plan" "made" "I" ∈ LW := LW_i 275 (by decide +kernel) (by decide +kernel)
theorem f1_21 : .fieldLink "ChannelSchedule$Plan" 21 "ChannelSchedule$Plan" "cancelled" "I" ∈ LW := LW_i 277 (by decide +kernel) (by decide +kernel)
theorem f1_24 : .fieldLink "ChannelSchedule$Plan" 24 "ChannelSchedule$Plan" "served" "I" ∈ LW := LW_i 279 (by decide +kernel) (by decide +kernel)
theorem f1_27 : .fieldLink "ChannelSchedule$Plan" 27 "ChannelSchedule$Plan" "bookings" "I" ∈ LW := LW_i 281 (by decide +kernel) (by decide +kernel)
theorem f1_30 : .fieldLink "ChannelSchedule$Plan" 30 "ChannelSchedule$Plan" "ships" "[I" ∈ LW := LW_i 283 (by decide +kernel) (by decide +kernel)
theorem f1_34 : .fieldLink "ChannelSchedule$Plan" 34 "ChannelSchedule$Plan" "inbound" "[Z" ∈ LW := LW_i 285 (by decide +kernel) (by decide +kernel)
theorem f1_38 : .fieldLink "ChannelSchedule$Plan" 38 "ChannelSchedule$Plan" "starts" "[I" ∈ LW := LW_i 287 (by decide +kernel) (by decide +kernel)
theorem f1_41 : .fieldLink "ChannelSchedule$Plan" 41 "ChannelSchedule$Plan" "ends" "[I" ∈ LW := LW_i 289 (by decide +kernel) (by decide +kernel)
theorem f1_44 : .fieldLink "ChannelSchedule$Plan" 44 "ChannelSchedule$Plan" "requests" "I" ∈ LW := LW_i 291 (by decide +kernel) (by decide +kernel)
theorem f1_47 : .fieldLink "ChannelSchedule$Plan" 47 "ChannelSchedule$Plan" "waitingShips" "[I" ∈ LW := LW_i 293 (by decide +kernel) (by decide +kernel)
theorem f1_50 : .fieldLink "ChannelSchedule$Plan" 50 "ChannelSchedule$Plan" "waitingInbound" "[Z" ∈ LW := LW_i 295 (by decide +kernel) (by decide +kernel)
theorem f1_53 : .fieldLink "ChannelSchedule$Plan" 53 "ChannelSchedule$Plan" "earliest" "[I" ∈ LW := LW_i 297 (by decide +kernel) (by decide +kernel)
theorem f1_56 : .fieldLink "ChannelSchedule$Plan" 56 "ChannelSchedule$Plan" "latest" "[I" ∈ LW := LW_i 299 (by decide +kernel) (by decide +kernel)
theorem f2_9 : .fieldLink "ChannelSchedule$Script" 9 "ChannelSchedule$Script" "count" "I" ∈ LW := LW_i 183 (by decide +kernel) (by decide +kernel)
theorem f2_15 : .fieldLink "ChannelSchedule$Script" 15 "ChannelSchedule$Script" "verbs" "[I" ∈ LW := LW_i 185 (by decide +kernel) (by decide +kernel)
theorem f2_19 : .fieldLink "ChannelSchedule$Script" 19 "ChannelSchedule$Script" "ships" "[I" ∈ LW := LW_i 187 (by decide +kernel) (by decide +kernel)
theorem f2_22 : .fieldLink "ChannelSchedule$Script" 22 "ChannelSchedule$Script" "inbound" "[Z" ∈ LW := LW_i 189 (by decide +kernel) (by decide +kernel)
theorem f2_26 : .fieldLink "ChannelSchedule$Script" 26 "ChannelSchedule$Script" "firsts" "[I" ∈ LW := LW_i 191 (by decide +kernel) (by decide +kernel)
theorem f2_29 : .fieldLink "ChannelSchedule$Script" 29 "ChannelSchedule$Script" "seconds" "[I" ∈ LW := LW_i 193 (by decide +kernel) (by decide +kernel)
theorem f3_9 : .fieldLink "ChannelSchedule$Setup" 9 "ChannelSchedule$Setup" "headway" "I" ∈ LW := LW_i 244 (by decide +kernel) (by decide +kernel)
theorem f3_15 : .fieldLink "ChannelSchedule$Setup" 15 "ChannelSchedule$Setup" "clearance" "I" ∈ LW := LW_i 246 (by decide +kernel) (by decide +kernel)
theorem f3_18 : .fieldLink "ChannelSchedule$Setup" 18 "ChannelSchedule$Setup" "thickness" "I" ∈ LW := LW_i 248 (by decide +kernel) (by decide +kernel)
theorem f3_21 : .fieldLink "ChannelSchedule$Setup" 21 "ChannelSchedule$Setup" "shipCount" "I" ∈ LW := LW_i 250 (by decide +kernel) (by decide +kernel)
theorem f3_26 : .fieldLink "ChannelSchedule$Setup" 26 "ChannelSchedule$Setup" "ships" "[LChannelSchedule$Ship;" ∈ LW := LW_i 252 (by decide +kernel) (by decide +kernel)
theorem f4_9 : .fieldLink "ChannelSchedule$Ship" 9 "ChannelSchedule$Ship" "name" "[B" ∈ LW := LW_i 223 (by decide +kernel) (by decide +kernel)
theorem f4_15 : .fieldLink "ChannelSchedule$Ship" 15 "ChannelSchedule$Ship" "nameLength" "I" ∈ LW := LW_i 225 (by decide +kernel) (by decide +kernel)
theorem f4_19 : .fieldLink "ChannelSchedule$Ship" 19 "ChannelSchedule$Ship" "time" "I" ∈ LW := LW_i 227 (by decide +kernel) (by decide +kernel)
theorem f4_22 : .fieldLink "ChannelSchedule$Ship" 22 "ChannelSchedule$Ship" "iceClass" "I" ∈ LW := LW_i 229 (by decide +kernel) (by decide +kernel)
theorem f4_25 : .fieldLink "ChannelSchedule$Ship" 25 "ChannelSchedule$Ship" "weight" "I" ∈ LW := LW_i 231 (by decide +kernel) (by decide +kernel)
