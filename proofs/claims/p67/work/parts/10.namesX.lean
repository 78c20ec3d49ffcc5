/-! names of the class: codes, words, decode rows (printed by names.py) -/
abbrev b0_init : ByteArray := prog_2_method_1_code
def y0_init : MethodName := ⟨"ChannelSchedule$Input", "<init>", "()V"⟩
theorem w0_init : YI y0_init b0_init 1 0 := ⟨LW_i 64 (by decide +kernel) (by decide +kernel), LW_i 29 (by decide +kernel) (by decide +kernel), LW_i 65 (by decide +kernel) (by decide +kernel), by decide +kernel, by decide +kernel, rfl⟩
theorem d0_init_0 : decode b0_init 0 = .ok (.aload_n 0, 1) := by decide +kernel
theorem d0_init_1 : decode b0_init 1 = .ok (.invokespecial 3, 3) := by decide +kernel
theorem d0_init_4 : decode b0_init 4 = .ok (.aload_n 0, 1) := by decide +kernel
theorem d0_init_5 : decode b0_init 5 = .ok (.sipush 600, 3) := by decide +kernel
theorem d0_init_8 : decode b0_init 8 = .ok (.newarray .byte, 2) := by decide +kernel
theorem d0_init_10 : decode b0_init 10 = .ok (.putfield 9, 3) := by decide +kernel
theorem d0_init_13 : decode b0_init 13 = .ok (.aload_n 0, 1) := by decide +kernel
theorem d0_init_14 : decode b0_init 14 = .ok (.iconst 0, 1) := by decide +kernel
theorem d0_init_15 : decode b0_init 15 = .ok (.putfield 15, 3) := by decide +kernel
theorem d0_init_18 : decode b0_init 18 = .ok (.aload_n 0, 1) := by decide +kernel
theorem d0_init_19 : decode b0_init 19 = .ok (.iconst 0, 1) := by decide +kernel
theorem d0_init_20 : decode b0_init 20 = .ok (.putfield 19, 3) := by decide +kernel
theorem d0_init_23 : decode b0_init 23 = .ok (.aload_n 0, 1) := by decide +kernel
theorem d0_init_24 : decode b0_init 24 = .ok (.iconst (-1), 1) := by decide +kernel
theorem d0_init_25 : decode b0_init 25 = .ok (.putfield 22, 3) := by decide +kernel
theorem d0_init_28 : decode b0_init 28 = .ok (.aload_n 0, 1) := by decide +kernel
theorem d0_init_29 : decode b0_init 29 = .ok (.iconst 0, 1) := by decide +kernel
theorem d0_init_30 : decode b0_init 30 = .ok (.putfield 25, 3) := by decide +kernel
theorem d0_init_33 : decode b0_init 33 = .ok (.aload_n 0, 1) := by decide +kernel
theorem d0_init_34 : decode b0_init 34 = .ok (.iconst 0, 1) := by decide +kernel
theorem d0_init_35 : decode b0_init 35 = .ok (.putfield 28, 3) := by decide +kernel
theorem d0_init_38 : decode b0_init 38 = .ok (.aload_n 0, 1) := by decide +kernel
theorem d0_init_39 : decode b0_init 39 = .ok (.iconst 0, 1) := by decide +kernel
theorem d0_init_40 : decode b0_init 40 = .ok (.putfield 31, 3) := by decide +kernel
theorem d0_init_43 : decode b0_init 43 = .ok (.aload_n 0, 1) := by decide +kernel
theorem d0_init_44 : decode b0_init 44 = .ok (.iconst 0, 1) := by decide +kernel
theorem d0_init_45 : decode b0_init 45 = .ok (.putfield 34, 3) := by decide +kernel
theorem d0_init_48 : decode b0_init 48 = .ok (.return_, 1) := by decide +kernel
abbrev b0_putByte : ByteArray := prog_2_method_2_code
def y0_putByte : MethodName := ⟨"ChannelSchedule$Input", "putByte", "(I)V"⟩
theorem w0_putByte : YV y0_putByte b0_putByte 2 none 1 := ⟨LW_i 297 (by decide +kernel) (by decide +kernel), LW_i 298 (by decide +kernel) (by decide +kernel), LW_i 29 (by decide +kernel) (by decide +kernel), LW_i 299 (by decide +kernel) (by decide +kernel), by decide +kernel, by decide +kernel⟩
theorem d0_putByte_0 : decode b0_putByte 0 = .ok (.aload_n 0, 1) := by decide +kernel
theorem d0_putByte_1 : decode b0_putByte 1 = .ok (.getfield 15, 3) := by decide +kernel
theorem d0_putByte_4 : decode b0_putByte 4 = .ok (.aload_n 0, 1) := by decide +kernel
theorem d0_putByte_5 : decode b0_putByte 5 = .ok (.getfield 9, 3) := by decide +kernel
theorem d0_putByte_8 : decode b0_putByte 8 = .ok (.arraylength, 1) := by decide +kernel
theorem d0_putByte_9 : decode b0_putByte 9 = .ok (.if_icmp .ge 24, 3) := by decide +kernel
theorem d0_putByte_12 : decode b0_putByte 12 = .ok (.aload_n 0, 1) := by decide +kernel
theorem d0_putByte_13 : decode b0_putByte 13 = .ok (.getfield 9, 3) := by decide +kernel
theorem d0_putByte_16 : decode b0_putByte 16 = .ok (.aload_n 0, 1) := by decide +kernel
theorem d0_putByte_17 : decode b0_putByte 17 = .ok (.getfield 15, 3) := by decide +kernel
theorem d0_putByte_20 : decode b0_putByte 20 = .ok (.iload_n 1, 1) := by decide +kernel
theorem d0_putByte_21 : decode b0_putByte 21 = .ok (.i2b, 1) := by decide +kernel
theorem d0_putByte_22 : decode b0_putByte 22 = .ok (.bastore, 1) := by decide +kernel
theorem d0_putByte_23 : decode b0_putByte 23 = .ok (.aload_n 0, 1) := by decide +kernel
theorem d0_putByte_24 : decode b0_putByte 24 = .ok (.dup, 1) := by decide +kernel
theorem d0_putByte_25 : decode b0_putByte 25 = .ok (.getfield 15, 3) := by decide +kernel
theorem d0_putByte_28 : decode b0_putByte 28 = .ok (.iconst 1, 1) := by decide +kernel
theorem d0_putByte_29 : decode b0_putByte 29 = .ok (.iadd, 1) := by decide +kernel
theorem d0_putByte_30 : decode b0_putByte 30 = .ok (.putfield 15, 3) := by decide +kernel
theorem d0_putByte_33 : decode b0_putByte 33 = .ok (.return_, 1) := by decide +kernel
abbrev b0_putFour : ByteArray := prog_2_method_3_code
def y0_putFour : MethodName := ⟨"ChannelSchedule$Input", "putFour", "(I)V"⟩
theorem w0_putFour : YV y0_putFour b0_putFour 2 none 1 := ⟨LW_i 825 (by decide +kernel) (by decide +kernel), LW_i 826 (by decide +kernel) (by decide +kernel), LW_i 29 (by decide +kernel) (by decide +kernel), LW_i 827 (by decide +kernel) (by decide +kernel), by decide +kernel, by decide +kernel⟩
theorem d0_putFour_0 : decode b0_putFour 0 = .ok (.aload_n 0, 1) := by decide +kernel
theorem d0_putFour_1 : decode b0_putFour 1 = .ok (.iload_n 1, 1) := by decide +kernel
theorem d0_putFour_2 : decode b0_putFour 2 = .ok (.bipush 24, 2) := by decide +kernel
theorem d0_putFour_4 : decode b0_putFour 4 = .ok (.iushr, 1) := by decide +kernel
theorem d0_putFour_5 : decode b0_putFour 5 = .ok (.invokevirtual 37, 3) := by decide +kernel
theorem d0_putFour_8 : decode b0_putFour 8 = .ok (.aload_n 0, 1) := by decide +kernel
theorem d0_putFour_9 : decode b0_putFour 9 = .ok (.iload_n 1, 1) := by decide +kernel
theorem d0_putFour_10 : decode b0_putFour 10 = .ok (.bipush 16, 2) := by decide +kernel
theorem d0_putFour_12 : decode b0_putFour 12 = .ok (.iushr, 1) := by decide +kernel
theorem d0_putFour_13 : decode b0_putFour 13 = .ok (.invokevirtual 37, 3) := by decide +kernel
theorem d0_putFour_16 : decode b0_putFour 16 = .ok (.aload_n 0, 1) := by decide +kernel
theorem d0_putFour_17 : decode b0_putFour 17 = .ok (.iload_n 1, 1) := by decide +kernel
theorem d0_putFour_18 : decode b0_putFour 18 = .ok (.bipush 8, 2) := by decide +kernel
theorem d0_putFour_20 : decode b0_putFour 20 = .ok (.iushr, 1) := by decide +kernel
theorem d0_putFour_21 : decode b0_putFour 21 = .ok (.invokevirtual 37, 3) := by decide +kernel
theorem d0_putFour_24 : decode b0_putFour 24 = .ok (.aload_n 0, 1) := by decide +kernel
theorem d0_putFour_25 : decode b0_putFour 25 = .ok (.iload_n 1, 1) := by decide +kernel
theorem d0_putFour_26 : decode b0_putFour 26 = .ok (.invokevirtual 37, 3) := by decide +kernel
theorem d0_putFour_29 : decode b0_putFour 29 = .ok (.return_, 1) := by decide +kernel
abbrev b0_startReading : ByteArray := prog_2_method_4_code
def y0_startReading : MethodName := ⟨"ChannelSchedule$Input", "startReading", "()V"⟩
theorem w0_startReading : YV y0_startReading b0_startReading 1 none 0 := ⟨LW_i 305 (by decide +kernel) (by decide +kernel), LW_i 306 (by decide +kernel) (by decide +kernel), LW_i 29 (by decide +kernel) (by decide +kernel), LW_i 307 (by decide +kernel) (by decide +kernel), by decide +kernel, by decide +kernel⟩
theorem d0_startReading_0 : decode b0_startReading 0 = .ok (.aload_n 0, 1) := by decide +kernel
theorem d0_startReading_1 : decode b0_startReading 1 = .ok (.iconst 0, 1) := by decide +kernel
theorem d0_startReading_2 : decode b0_startReading 2 = .ok (.putfield 19, 3) := by decide +kernel
theorem d0_startReading_5 : decode b0_startReading 5 = .ok (.aload_n 0, 1) := by decide +kernel
theorem d0_startReading_6 : decode b0_startReading 6 = .ok (.iconst (-1), 1) := by decide +kernel
theorem d0_startReading_7 : decode b0_startReading 7 = .ok (.putfield 22, 3) := by decide +kernel
theorem d0_startReading_10 : decode b0_startReading 10 = .ok (.aload_n 0, 1) := by decide +kernel
theorem d0_startReading_11 : decode b0_startReading 11 = .ok (.iconst 0, 1) := by decide +kernel
theorem d0_startReading_12 : decode b0_startReading 12 = .ok (.putfield 31, 3) := by decide +kernel
theorem d0_startReading_15 : decode b0_startReading 15 = .ok (.aload_n 0, 1) := by decide +kernel
theorem d0_startReading_16 : decode b0_startReading 16 = .ok (.invokevirtual 41, 3) := by decide +kernel
theorem d0_startReading_19 : decode b0_startReading 19 = .ok (.return_, 1) := by decide +kernel
abbrev b0_readToken : ByteArray := prog_2_method_5_code
def y0_readToken : MethodName := ⟨"ChannelSchedule$Input", "readToken", "()V"⟩
theorem w0_readToken : YV y0_readToken b0_readToken 1 none 0 := ⟨LW_i 309 (by decide +kernel) (by decide +kernel), LW_i 310 (by decide +kernel) (by decide +kernel), LW_i 29 (by decide +kernel) (by decide +kernel), LW_i 311 (by decide +kernel) (by decide +kernel), by decide +kernel, by decide +kernel⟩
theorem d0_readToken_0 : decode b0_readToken 0 = .ok (.aload_n 0, 1) := by decide +kernel
theorem d0_readToken_1 : decode b0_readToken 1 = .ok (.getfield 31, 3) := by decide +kernel
theorem d0_readToken_4 : decode b0_readToken 4 = .ok (.aload_n 0, 1) := by decide +kernel
theorem d0_readToken_5 : decode b0_readToken 5 = .ok (.getfield 15, 3) := by decide +kernel
theorem d0_readToken_8 : decode b0_readToken 8 = .ok (.if_icmp .ge 32, 3) := by decide +kernel
theorem d0_readToken_11 : decode b0_readToken 11 = .ok (.aload_n 0, 1) := by decide +kernel
theorem d0_readToken_12 : decode b0_readToken 12 = .ok (.getfield 9, 3) := by decide +kernel
theorem d0_readToken_15 : decode b0_readToken 15 = .ok (.aload_n 0, 1) := by decide +kernel
theorem d0_readToken_16 : decode b0_readToken 16 = .ok (.getfield 31, 3) := by decide +kernel
theorem d0_readToken_19 : decode b0_readToken 19 = .ok (.baload, 1) := by decide +kernel
theorem d0_readToken_20 : decode b0_readToken 20 = .ok (.invokestatic 44, 3) := by decide +kernel
theorem d0_readToken_23 : decode b0_readToken 23 = .ok (.iconst 5, 1) := by decide +kernel
theorem d0_readToken_24 : decode b0_readToken 24 = .ok (.if_icmp .ne 16, 3) := by decide +kernel
theorem d0_readToken_27 : decode b0_readToken 27 = .ok (.aload_n 0, 1) := by decide +kernel
theorem d0_readToken_28 : decode b0_readToken 28 = .ok (.dup, 1) := by decide +kernel
theorem d0_readToken_29 : decode b0_readToken 29 = .ok (.getfield 31, 3) := by decide +kernel
theorem d0_readToken_32 : decode b0_readToken 32 = .ok (.iconst 1, 1) := by decide +kernel
theorem d0_readToken_33 : decode b0_readToken 33 = .ok (.iadd, 1) := by decide +kernel
theorem d0_readToken_34 : decode b0_readToken 34 = .ok (.putfield 31, 3) := by decide +kernel
theorem d0_readToken_37 : decode b0_readToken 37 = .ok (.goto (-37), 3) := by decide +kernel
theorem d0_readToken_40 : decode b0_readToken 40 = .ok (.aload_n 0, 1) := by decide +kernel
theorem d0_readToken_41 : decode b0_readToken 41 = .ok (.aload_n 0, 1) := by decide +kernel
theorem d0_readToken_42 : decode b0_readToken 42 = .ok (.getfield 31, 3) := by decide +kernel
theorem d0_readToken_45 : decode b0_readToken 45 = .ok (.putfield 28, 3) := by decide +kernel
theorem d0_readToken_48 : decode b0_readToken 48 = .ok (.aload_n 0, 1) := by decide +kernel
theorem d0_readToken_49 : decode b0_readToken 49 = .ok (.getfield 31, 3) := by decide +kernel
theorem d0_readToken_52 : decode b0_readToken 52 = .ok (.aload_n 0, 1) := by decide +kernel
theorem d0_readToken_53 : decode b0_readToken 53 = .ok (.getfield 15, 3) := by decide +kernel
theorem d0_readToken_56 : decode b0_readToken 56 = .ok (.if_icmp .lt 9, 3) := by decide +kernel
theorem d0_readToken_59 : decode b0_readToken 59 = .ok (.aload_n 0, 1) := by decide +kernel
theorem d0_readToken_60 : decode b0_readToken 60 = .ok (.iconst 0, 1) := by decide +kernel
theorem d0_readToken_61 : decode b0_readToken 61 = .ok (.putfield 25, 3) := by decide +kernel
theorem d0_readToken_64 : decode b0_readToken 64 = .ok (.return_, 1) := by decide +kernel
theorem d0_readToken_65 : decode b0_readToken 65 = .ok (.aload_n 0, 1) := by decide +kernel
theorem d0_readToken_66 : decode b0_readToken 66 = .ok (.aload_n 0, 1) := by decide +kernel
theorem d0_readToken_67 : decode b0_readToken 67 = .ok (.getfield 9, 3) := by decide +kernel
theorem d0_readToken_70 : decode b0_readToken 70 = .ok (.aload_n 0, 1) := by decide +kernel
theorem d0_readToken_71 : decode b0_readToken 71 = .ok (.getfield 31, 3) := by decide +kernel
theorem d0_readToken_74 : decode b0_readToken 74 = .ok (.baload, 1) := by decide +kernel
theorem d0_readToken_75 : decode b0_readToken 75 = .ok (.invokestatic 44, 3) := by decide +kernel
theorem d0_readToken_78 : decode b0_readToken 78 = .ok (.putfield 25, 3) := by decide +kernel
theorem d0_readToken_81 : decode b0_readToken 81 = .ok (.aload_n 0, 1) := by decide +kernel
theorem d0_readToken_82 : decode b0_readToken 82 = .ok (.dup, 1) := by decide +kernel
theorem d0_readToken_83 : decode b0_readToken 83 = .ok (.getfield 31, 3) := by decide +kernel
theorem d0_readToken_86 : decode b0_readToken 86 = .ok (.iconst 1, 1) := by decide +kernel
theorem d0_readToken_87 : decode b0_readToken 87 = .ok (.iadd, 1) := by decide +kernel
theorem d0_readToken_88 : decode b0_readToken 88 = .ok (.putfield 31, 3) := by decide +kernel
theorem d0_readToken_91 : decode b0_readToken 91 = .ok (.aload_n 0, 1) := by decide +kernel
theorem d0_readToken_92 : decode b0_readToken 92 = .ok (.getfield 25, 3) := by decide +kernel
theorem d0_readToken_95 : decode b0_readToken 95 = .ok (.iconst 1, 1) := by decide +kernel
theorem d0_readToken_96 : decode b0_readToken 96 = .ok (.if_icmp .eq 11, 3) := by decide +kernel
theorem d0_readToken_99 : decode b0_readToken 99 = .ok (.aload_n 0, 1) := by decide +kernel
theorem d0_readToken_100 : decode b0_readToken 100 = .ok (.getfield 25, 3) := by decide +kernel
theorem d0_readToken_103 : decode b0_readToken 103 = .ok (.iconst 2, 1) := by decide +kernel
theorem d0_readToken_104 : decode b0_readToken 104 = .ok (.if_icmp .ne 7, 3) := by decide +kernel
theorem d0_readToken_107 : decode b0_readToken 107 = .ok (.aload_n 0, 1) := by decide +kernel
theorem d0_readToken_108 : decode b0_readToken 108 = .ok (.invokevirtual 48, 3) := by decide +kernel
theorem d0_readToken_111 : decode b0_readToken 111 = .ok (.return_, 1) := by decide +kernel
abbrev b0_readRun : ByteArray := prog_2_method_6_code
def y0_readRun : MethodName := ⟨"ChannelSchedule$Input", "readRun", "()V"⟩
theorem w0_readRun : YV y0_readRun b0_readRun 2 none 0 := ⟨LW_i 316 (by decide +kernel) (by decide +kernel), LW_i 317 (by decide +kernel) (by decide +kernel), LW_i 29 (by decide +kernel) (by decide +kernel), LW_i 318 (by decide +kernel) (by decide +kernel), by decide +kernel, by decide +kernel⟩
theorem d0_readRun_0 : decode b0_readRun 0 = .ok (.aload_n 0, 1) := by decide +kernel
theorem d0_readRun_1 : decode b0_readRun 1 = .ok (.getfield 31, 3) := by decide +kernel
theorem d0_readRun_4 : decode b0_readRun 4 = .ok (.aload_n 0, 1) := by decide +kernel
theorem d0_readRun_5 : decode b0_readRun 5 = .ok (.getfield 15, 3) := by decide +kernel
theorem d0_readRun_8 : decode b0_readRun 8 = .ok (.if_icmp .ge 35, 3) := by decide +kernel
theorem d0_readRun_11 : decode b0_readRun 11 = .ok (.aload_n 0, 1) := by decide +kernel
theorem d0_readRun_12 : decode b0_readRun 12 = .ok (.getfield 9, 3) := by decide +kernel
theorem d0_readRun_15 : decode b0_readRun 15 = .ok (.aload_n 0, 1) := by decide +kernel
theorem d0_readRun_16 : decode b0_readRun 16 = .ok (.getfield 31, 3) := by decide +kernel
theorem d0_readRun_19 : decode b0_readRun 19 = .ok (.baload, 1) := by decide +kernel
theorem d0_readRun_20 : decode b0_readRun 20 = .ok (.invokestatic 44, 3) := by decide +kernel
theorem d0_readRun_23 : decode b0_readRun 23 = .ok (.aload_n 0, 1) := by decide +kernel
theorem d0_readRun_24 : decode b0_readRun 24 = .ok (.getfield 25, 3) := by decide +kernel
theorem d0_readRun_27 : decode b0_readRun 27 = .ok (.if_icmp .ne 16, 3) := by decide +kernel
theorem d0_readRun_30 : decode b0_readRun 30 = .ok (.aload_n 0, 1) := by decide +kernel
theorem d0_readRun_31 : decode b0_readRun 31 = .ok (.dup, 1) := by decide +kernel
theorem d0_readRun_32 : decode b0_readRun 32 = .ok (.getfield 31, 3) := by decide +kernel
theorem d0_readRun_35 : decode b0_readRun 35 = .ok (.iconst 1, 1) := by decide +kernel
theorem d0_readRun_36 : decode b0_readRun 36 = .ok (.iadd, 1) := by decide +kernel
theorem d0_readRun_37 : decode b0_readRun 37 = .ok (.putfield 31, 3) := by decide +kernel
theorem d0_readRun_40 : decode b0_readRun 40 = .ok (.goto (-40), 3) := by decide +kernel
theorem d0_readRun_43 : decode b0_readRun 43 = .ok (.aload_n 0, 1) := by decide +kernel
theorem d0_readRun_44 : decode b0_readRun 44 = .ok (.getfield 25, 3) := by decide +kernel
theorem d0_readRun_47 : decode b0_readRun 47 = .ok (.iconst 1, 1) := by decide +kernel
theorem d0_readRun_48 : decode b0_readRun 48 = .ok (.if_icmp .ne 8, 3) := by decide +kernel
theorem d0_readRun_51 : decode b0_readRun 51 = .ok (.bipush 8, 2) := by decide +kernel
theorem d0_readRun_53 : decode b0_readRun 53 = .ok (.goto 4, 3) := by decide +kernel
theorem d0_readRun_56 : decode b0_readRun 56 = .ok (.iconst 4, 1) := by decide +kernel
theorem d0_readRun_57 : decode b0_readRun 57 = .ok (.istore_n 1, 1) := by decide +kernel
theorem d0_readRun_58 : decode b0_readRun 58 = .ok (.aload_n 0, 1) := by decide +kernel
theorem d0_readRun_59 : decode b0_readRun 59 = .ok (.getfield 31, 3) := by decide +kernel
theorem d0_readRun_62 : decode b0_readRun 62 = .ok (.aload_n 0, 1) := by decide +kernel
theorem d0_readRun_63 : decode b0_readRun 63 = .ok (.getfield 28, 3) := by decide +kernel
theorem d0_readRun_66 : decode b0_readRun 66 = .ok (.isub, 1) := by decide +kernel
theorem d0_readRun_67 : decode b0_readRun 67 = .ok (.iload_n 1, 1) := by decide +kernel
theorem d0_readRun_68 : decode b0_readRun 68 = .ok (.if_icmp .le 8, 3) := by decide +kernel
theorem d0_readRun_71 : decode b0_readRun 71 = .ok (.aload_n 0, 1) := by decide +kernel
theorem d0_readRun_72 : decode b0_readRun 72 = .ok (.iconst 4, 1) := by decide +kernel
theorem d0_readRun_73 : decode b0_readRun 73 = .ok (.putfield 25, 3) := by decide +kernel
theorem d0_readRun_76 : decode b0_readRun 76 = .ok (.return_, 1) := by decide +kernel
abbrev b0_kindOf : ByteArray := prog_2_method_7_code
def y0_kindOf : MethodName := ⟨"ChannelSchedule$Input", "kindOf", "(I)I"⟩
theorem w0_kindOf : YS y0_kindOf b0_kindOf 1 (some .int) 1 := ⟨LW_i 313 (by decide +kernel) (by decide +kernel), LW_i 29 (by decide +kernel) (by decide +kernel), LW_i 314 (by decide +kernel) (by decide +kernel), by decide +kernel, by decide +kernel⟩
theorem d0_kindOf_0 : decode b0_kindOf 0 = .ok (.iload_n 0, 1) := by decide +kernel
theorem d0_kindOf_1 : decode b0_kindOf 1 = .ok (.bipush 97, 2) := by decide +kernel
theorem d0_kindOf_3 : decode b0_kindOf 3 = .ok (.if_icmp .lt 11, 3) := by decide +kernel
theorem d0_kindOf_6 : decode b0_kindOf 6 = .ok (.iload_n 0, 1) := by decide +kernel
theorem d0_kindOf_7 : decode b0_kindOf 7 = .ok (.bipush 122, 2) := by decide +kernel
theorem d0_kindOf_9 : decode b0_kindOf 9 = .ok (.if_icmp .gt 5, 3) := by decide +kernel
theorem d0_kindOf_12 : decode b0_kindOf 12 = .ok (.iconst 1, 1) := by decide +kernel
theorem d0_kindOf_13 : decode b0_kindOf 13 = .ok (.ireturn, 1) := by decide +kernel
theorem d0_kindOf_14 : decode b0_kindOf 14 = .ok (.iload_n 0, 1) := by decide +kernel
theorem d0_kindOf_15 : decode b0_kindOf 15 = .ok (.bipush 48, 2) := by decide +kernel
theorem d0_kindOf_17 : decode b0_kindOf 17 = .ok (.if_icmp .lt 11, 3) := by decide +kernel
theorem d0_kindOf_20 : decode b0_kindOf 20 = .ok (.iload_n 0, 1) := by decide +kernel
theorem d0_kindOf_21 : decode b0_kindOf 21 = .ok (.bipush 57, 2) := by decide +kernel
theorem d0_kindOf_23 : decode b0_kindOf 23 = .ok (.if_icmp .gt 5, 3) := by decide +kernel
theorem d0_kindOf_26 : decode b0_kindOf 26 = .ok (.iconst 2, 1) := by decide +kernel
theorem d0_kindOf_27 : decode b0_kindOf 27 = .ok (.ireturn, 1) := by decide +kernel
theorem d0_kindOf_28 : decode b0_kindOf 28 = .ok (.iload_n 0, 1) := by decide +kernel
theorem d0_kindOf_29 : decode b0_kindOf 29 = .ok (.bipush 59, 2) := by decide +kernel
theorem d0_kindOf_31 : decode b0_kindOf 31 = .ok (.if_icmp .ne 5, 3) := by decide +kernel
theorem d0_kindOf_34 : decode b0_kindOf 34 = .ok (.iconst 3, 1) := by decide +kernel
theorem d0_kindOf_35 : decode b0_kindOf 35 = .ok (.ireturn, 1) := by decide +kernel
theorem d0_kindOf_36 : decode b0_kindOf 36 = .ok (.iload_n 0, 1) := by decide +kernel
theorem d0_kindOf_37 : decode b0_kindOf 37 = .ok (.bipush 32, 2) := by decide +kernel
theorem d0_kindOf_39 : decode b0_kindOf 39 = .ok (.if_icmp .eq 9, 3) := by decide +kernel
theorem d0_kindOf_42 : decode b0_kindOf 42 = .ok (.iload_n 0, 1) := by decide +kernel
theorem d0_kindOf_43 : decode b0_kindOf 43 = .ok (.bipush 10, 2) := by decide +kernel
theorem d0_kindOf_45 : decode b0_kindOf 45 = .ok (.if_icmp .ne 7, 3) := by decide +kernel
theorem d0_kindOf_48 : decode b0_kindOf 48 = .ok (.iconst 5, 1) := by decide +kernel
theorem d0_kindOf_49 : decode b0_kindOf 49 = .ok (.goto 4, 3) := by decide +kernel
theorem d0_kindOf_52 : decode b0_kindOf 52 = .ok (.iconst 4, 1) := by decide +kernel
theorem d0_kindOf_53 : decode b0_kindOf 53 = .ok (.ireturn, 1) := by decide +kernel
abbrev b0_fail : ByteArray := prog_2_method_8_code
def y0_fail : MethodName := ⟨"ChannelSchedule$Input", "fail", "(I)Z"⟩
theorem w0_fail : YV y0_fail b0_fail 2 (some .boolean) 1 := ⟨LW_i 335 (by decide +kernel) (by decide +kernel), LW_i 336 (by decide +kernel) (by decide +kernel), LW_i 29 (by decide +kernel) (by decide +kernel), LW_i 337 (by decide +kernel) (by decide +kernel), by decide +kernel, by decide +kernel⟩
theorem d0_fail_0 : decode b0_fail 0 = .ok (.aload_n 0, 1) := by decide +kernel
theorem d0_fail_1 : decode b0_fail 1 = .ok (.iload_n 1, 1) := by decide +kernel
theorem d0_fail_2 : decode b0_fail 2 = .ok (.putfield 19, 3) := by decide +kernel
theorem d0_fail_5 : decode b0_fail 5 = .ok (.aload_n 0, 1) := by decide +kernel
theorem d0_fail_6 : decode b0_fail 6 = .ok (.aload_n 0, 1) := by decide +kernel
theorem d0_fail_7 : decode b0_fail 7 = .ok (.getfield 28, 3) := by decide +kernel
theorem d0_fail_10 : decode b0_fail 10 = .ok (.putfield 22, 3) := by decide +kernel
theorem d0_fail_13 : decode b0_fail 13 = .ok (.iconst 0, 1) := by decide +kernel
theorem d0_fail_14 : decode b0_fail 14 = .ok (.ireturn, 1) := by decide +kernel
abbrev b0_isWord : ByteArray := prog_2_method_9_code
def y0_isWord : MethodName := ⟨"ChannelSchedule$Input", "isWord", "(Ljava/lang/String;)Z"⟩
theorem w0_isWord : YV y0_isWord b0_isWord 3 (some .boolean) 1 := ⟨LW_i 329 (by decide +kernel) (by decide +kernel), LW_i 330 (by decide +kernel) (by decide +kernel), LW_i 29 (by decide +kernel) (by decide +kernel), LW_i 331 (by decide +kernel) (by decide +kernel), by decide +kernel, by decide +kernel⟩
theorem d0_isWord_0 : decode b0_isWord 0 = .ok (.aload_n 0, 1) := by decide +kernel
theorem d0_isWord_1 : decode b0_isWord 1 = .ok (.getfield 25, 3) := by decide +kernel
theorem d0_isWord_4 : decode b0_isWord 4 = .ok (.iconst 1, 1) := by decide +kernel
theorem d0_isWord_5 : decode b0_isWord 5 = .ok (.if_icmp .ne 19, 3) := by decide +kernel
theorem d0_isWord_8 : decode b0_isWord 8 = .ok (.aload_n 0, 1) := by decide +kernel
theorem d0_isWord_9 : decode b0_isWord 9 = .ok (.getfield 31, 3) := by decide +kernel
theorem d0_isWord_12 : decode b0_isWord 12 = .ok (.aload_n 0, 1) := by decide +kernel
theorem d0_isWord_13 : decode b0_isWord 13 = .ok (.getfield 28, 3) := by decide +kernel
theorem d0_isWord_16 : decode b0_isWord 16 = .ok (.isub, 1) := by decide +kernel
theorem d0_isWord_17 : decode b0_isWord 17 = .ok (.aload_n 1, 1) := by decide +kernel
theorem d0_isWord_18 : decode b0_isWord 18 = .ok (.invokevirtual 51, 3) := by decide +kernel
theorem d0_isWord_21 : decode b0_isWord 21 = .ok (.if_icmp .eq 5, 3) := by decide +kernel
theorem d0_isWord_24 : decode b0_isWord 24 = .ok (.iconst 0, 1) := by decide +kernel
theorem d0_isWord_25 : decode b0_isWord 25 = .ok (.ireturn, 1) := by decide +kernel
theorem d0_isWord_26 : decode b0_isWord 26 = .ok (.iconst 0, 1) := by decide +kernel
theorem d0_isWord_27 : decode b0_isWord 27 = .ok (.istore_n 2, 1) := by decide +kernel
theorem d0_isWord_28 : decode b0_isWord 28 = .ok (.iload_n 2, 1) := by decide +kernel
theorem d0_isWord_29 : decode b0_isWord 29 = .ok (.aload_n 1, 1) := by decide +kernel
theorem d0_isWord_30 : decode b0_isWord 30 = .ok (.invokevirtual 51, 3) := by decide +kernel
theorem d0_isWord_33 : decode b0_isWord 33 = .ok (.if_icmp .ge 30, 3) := by decide +kernel
theorem d0_isWord_36 : decode b0_isWord 36 = .ok (.aload_n 0, 1) := by decide +kernel
theorem d0_isWord_37 : decode b0_isWord 37 = .ok (.getfield 9, 3) := by decide +kernel
theorem d0_isWord_40 : decode b0_isWord 40 = .ok (.aload_n 0, 1) := by decide +kernel
theorem d0_isWord_41 : decode b0_isWord 41 = .ok (.getfield 28, 3) := by decide +kernel
theorem d0_isWord_44 : decode b0_isWord 44 = .ok (.iload_n 2, 1) := by decide +kernel
theorem d0_isWord_45 : decode b0_isWord 45 = .ok (.iadd, 1) := by decide +kernel
theorem d0_isWord_46 : decode b0_isWord 46 = .ok (.baload, 1) := by decide +kernel
theorem d0_isWord_47 : decode b0_isWord 47 = .ok (.aload_n 1, 1) := by decide +kernel
theorem d0_isWord_48 : decode b0_isWord 48 = .ok (.iload_n 2, 1) := by decide +kernel
theorem d0_isWord_49 : decode b0_isWord 49 = .ok (.invokevirtual 56, 3) := by decide +kernel
theorem d0_isWord_52 : decode b0_isWord 52 = .ok (.if_icmp .eq 5, 3) := by decide +kernel
theorem d0_isWord_55 : decode b0_isWord 55 = .ok (.iconst 0, 1) := by decide +kernel
theorem d0_isWord_56 : decode b0_isWord 56 = .ok (.ireturn, 1) := by decide +kernel
theorem d0_isWord_57 : decode b0_isWord 57 = .ok (.iinc 2 1, 3) := by decide +kernel
theorem d0_isWord_60 : decode b0_isWord 60 = .ok (.goto (-32), 3) := by decide +kernel
theorem d0_isWord_63 : decode b0_isWord 63 = .ok (.iconst 1, 1) := by decide +kernel
theorem d0_isWord_64 : decode b0_isWord 64 = .ok (.ireturn, 1) := by decide +kernel
abbrev b0_takeWord : ByteArray := prog_2_method_10_code
def y0_takeWord : MethodName := ⟨"ChannelSchedule$Input", "takeWord", "(Ljava/lang/String;)Z"⟩
theorem w0_takeWord : YV y0_takeWord b0_takeWord 2 (some .boolean) 1 := ⟨LW_i 325 (by decide +kernel) (by decide +kernel), LW_i 326 (by decide +kernel) (by decide +kernel), LW_i 29 (by decide +kernel) (by decide +kernel), LW_i 327 (by decide +kernel) (by decide +kernel), by decide +kernel, by decide +kernel⟩
theorem d0_takeWord_0 : decode b0_takeWord 0 = .ok (.aload_n 0, 1) := by decide +kernel
theorem d0_takeWord_1 : decode b0_takeWord 1 = .ok (.aload_n 1, 1) := by decide +kernel
theorem d0_takeWord_2 : decode b0_takeWord 2 = .ok (.invokevirtual 60, 3) := by decide +kernel
theorem d0_takeWord_5 : decode b0_takeWord 5 = .ok (.ifCond .ne 9, 3) := by decide +kernel
theorem d0_takeWord_8 : decode b0_takeWord 8 = .ok (.aload_n 0, 1) := by decide +kernel
theorem d0_takeWord_9 : decode b0_takeWord 9 = .ok (.iconst 1, 1) := by decide +kernel
theorem d0_takeWord_10 : decode b0_takeWord 10 = .ok (.invokevirtual 64, 3) := by decide +kernel
theorem d0_takeWord_13 : decode b0_takeWord 13 = .ok (.ireturn, 1) := by decide +kernel
theorem d0_takeWord_14 : decode b0_takeWord 14 = .ok (.aload_n 0, 1) := by decide +kernel
theorem d0_takeWord_15 : decode b0_takeWord 15 = .ok (.invokevirtual 41, 3) := by decide +kernel
theorem d0_takeWord_18 : decode b0_takeWord 18 = .ok (.iconst 1, 1) := by decide +kernel
theorem d0_takeWord_19 : decode b0_takeWord 19 = .ok (.ireturn, 1) := by decide +kernel
abbrev b0_takeSemicolon : ByteArray := prog_2_method_11_code
def y0_takeSemicolon : MethodName := ⟨"ChannelSchedule$Input", "takeSemicolon", "()Z"⟩
theorem w0_takeSemicolon : YV y0_takeSemicolon b0_takeSemicolon 1 (some .boolean) 0 := ⟨LW_i 343 (by decide +kernel) (by decide +kernel), LW_i 344 (by decide +kernel) (by decide +kernel), LW_i 29 (by decide +kernel) (by decide +kernel), LW_i 345 (by decide +kernel) (by decide +kernel), by decide +kernel, by decide +kernel⟩
theorem d0_takeSemicolon_0 : decode b0_takeSemicolon 0 = .ok (.aload_n 0, 1) := by decide +kernel
theorem d0_takeSemicolon_1 : decode b0_takeSemicolon 1 = .ok (.getfield 25, 3) := by decide +kernel
theorem d0_takeSemicolon_4 : decode b0_takeSemicolon 4 = .ok (.iconst 3, 1) := by decide +kernel
theorem d0_takeSemicolon_5 : decode b0_takeSemicolon 5 = .ok (.if_icmp .eq 9, 3) := by decide +kernel
theorem d0_takeSemicolon_8 : decode b0_takeSemicolon 8 = .ok (.aload_n 0, 1) := by decide +kernel
theorem d0_takeSemicolon_9 : decode b0_takeSemicolon 9 = .ok (.iconst 1, 1) := by decide +kernel
theorem d0_takeSemicolon_10 : decode b0_takeSemicolon 10 = .ok (.invokevirtual 64, 3) := by decide +kernel
theorem d0_takeSemicolon_13 : decode b0_takeSemicolon 13 = .ok (.ireturn, 1) := by decide +kernel
theorem d0_takeSemicolon_14 : decode b0_takeSemicolon 14 = .ok (.aload_n 0, 1) := by decide +kernel
theorem d0_takeSemicolon_15 : decode b0_takeSemicolon 15 = .ok (.invokevirtual 41, 3) := by decide +kernel
theorem d0_takeSemicolon_18 : decode b0_takeSemicolon 18 = .ok (.iconst 1, 1) := by decide +kernel
theorem d0_takeSemicolon_19 : decode b0_takeSemicolon 19 = .ok (.ireturn, 1) := by decide +kernel
abbrev b0_takeNumber : ByteArray := prog_2_method_12_code
def y0_takeNumber : MethodName := ⟨"ChannelSchedule$Input", "takeNumber", "(II)Z"⟩
theorem w0_takeNumber : YV y0_takeNumber b0_takeNumber 4 (some .boolean) 2 := ⟨LW_i 339 (by decide +kernel) (by decide +kernel), LW_i 340 (by decide +kernel) (by decide +kernel), LW_i 29 (by decide +kernel) (by decide +kernel), LW_i 341 (by decide +kernel) (by decide +kernel), by decide +kernel, by decide +kernel⟩
theorem d0_takeNumber_0 : decode b0_takeNumber 0 = .ok (.aload_n 0, 1) := by decide +kernel
theorem d0_takeNumber_1 : decode b0_takeNumber 1 = .ok (.getfield 25, 3) := by decide +kernel
theorem d0_takeNumber_4 : decode b0_takeNumber 4 = .ok (.iconst 2, 1) := by decide +kernel
theorem d0_takeNumber_5 : decode b0_takeNumber 5 = .ok (.if_icmp .eq 9, 3) := by decide +kernel
theorem d0_takeNumber_8 : decode b0_takeNumber 8 = .ok (.aload_n 0, 1) := by decide +kernel
theorem d0_takeNumber_9 : decode b0_takeNumber 9 = .ok (.iconst 1, 1) := by decide +kernel
theorem d0_takeNumber_10 : decode b0_takeNumber 10 = .ok (.invokevirtual 64, 3) := by decide +kernel
theorem d0_takeNumber_13 : decode b0_takeNumber 13 = .ok (.ireturn, 1) := by decide +kernel
theorem d0_takeNumber_14 : decode b0_takeNumber 14 = .ok (.aload_n 0, 1) := by decide +kernel
theorem d0_takeNumber_15 : decode b0_takeNumber 15 = .ok (.iconst 0, 1) := by decide +kernel
theorem d0_takeNumber_16 : decode b0_takeNumber 16 = .ok (.putfield 34, 3) := by decide +kernel
theorem d0_takeNumber_19 : decode b0_takeNumber 19 = .ok (.aload_n 0, 1) := by decide +kernel
theorem d0_takeNumber_20 : decode b0_takeNumber 20 = .ok (.getfield 28, 3) := by decide +kernel
theorem d0_takeNumber_23 : decode b0_takeNumber 23 = .ok (.istore_n 3, 1) := by decide +kernel
theorem d0_takeNumber_24 : decode b0_takeNumber 24 = .ok (.iload_n 3, 1) := by decide +kernel
theorem d0_takeNumber_25 : decode b0_takeNumber 25 = .ok (.aload_n 0, 1) := by decide +kernel
theorem d0_takeNumber_26 : decode b0_takeNumber 26 = .ok (.getfield 31, 3) := by decide +kernel
theorem d0_takeNumber_29 : decode b0_takeNumber 29 = .ok (.if_icmp .ge 30, 3) := by decide +kernel
theorem d0_takeNumber_32 : decode b0_takeNumber 32 = .ok (.aload_n 0, 1) := by decide +kernel
theorem d0_takeNumber_33 : decode b0_takeNumber 33 = .ok (.aload_n 0, 1) := by decide +kernel
theorem d0_takeNumber_34 : decode b0_takeNumber 34 = .ok (.getfield 34, 3) := by decide +kernel
theorem d0_takeNumber_37 : decode b0_takeNumber 37 = .ok (.bipush 10, 2) := by decide +kernel
theorem d0_takeNumber_39 : decode b0_takeNumber 39 = .ok (.imul, 1) := by decide +kernel
theorem d0_takeNumber_40 : decode b0_takeNumber 40 = .ok (.aload_n 0, 1) := by decide +kernel
theorem d0_takeNumber_41 : decode b0_takeNumber 41 = .ok (.getfield 9, 3) := by decide +kernel
theorem d0_takeNumber_44 : decode b0_takeNumber 44 = .ok (.iload_n 3, 1) := by decide +kernel
theorem d0_takeNumber_45 : decode b0_takeNumber 45 = .ok (.baload, 1) := by decide +kernel
theorem d0_takeNumber_46 : decode b0_takeNumber 46 = .ok (.bipush 48, 2) := by decide +kernel
theorem d0_takeNumber_48 : decode b0_takeNumber 48 = .ok (.isub, 1) := by decide +kernel
theorem d0_takeNumber_49 : decode b0_takeNumber 49 = .ok (.iadd, 1) := by decide +kernel
theorem d0_takeNumber_50 : decode b0_takeNumber 50 = .ok (.putfield 34, 3) := by decide +kernel
theorem d0_takeNumber_53 : decode b0_takeNumber 53 = .ok (.iinc 3 1, 3) := by decide +kernel
theorem d0_takeNumber_56 : decode b0_takeNumber 56 = .ok (.goto (-32), 3) := by decide +kernel
theorem d0_takeNumber_59 : decode b0_takeNumber 59 = .ok (.aload_n 0, 1) := by decide +kernel
theorem d0_takeNumber_60 : decode b0_takeNumber 60 = .ok (.getfield 34, 3) := by decide +kernel
theorem d0_takeNumber_63 : decode b0_takeNumber 63 = .ok (.iload_n 1, 1) := by decide +kernel
theorem d0_takeNumber_64 : decode b0_takeNumber 64 = .ok (.if_icmp .lt 11, 3) := by decide +kernel
theorem d0_takeNumber_67 : decode b0_takeNumber 67 = .ok (.aload_n 0, 1) := by decide +kernel
theorem d0_takeNumber_68 : decode b0_takeNumber 68 = .ok (.getfield 34, 3) := by decide +kernel
theorem d0_takeNumber_71 : decode b0_takeNumber 71 = .ok (.iload_n 2, 1) := by decide +kernel
theorem d0_takeNumber_72 : decode b0_takeNumber 72 = .ok (.if_icmp .le 9, 3) := by decide +kernel
theorem d0_takeNumber_75 : decode b0_takeNumber 75 = .ok (.aload_n 0, 1) := by decide +kernel
theorem d0_takeNumber_76 : decode b0_takeNumber 76 = .ok (.iconst 2, 1) := by decide +kernel
theorem d0_takeNumber_77 : decode b0_takeNumber 77 = .ok (.invokevirtual 64, 3) := by decide +kernel
theorem d0_takeNumber_80 : decode b0_takeNumber 80 = .ok (.ireturn, 1) := by decide +kernel
theorem d0_takeNumber_81 : decode b0_takeNumber 81 = .ok (.aload_n 0, 1) := by decide +kernel
theorem d0_takeNumber_82 : decode b0_takeNumber 82 = .ok (.invokevirtual 41, 3) := by decide +kernel
theorem d0_takeNumber_85 : decode b0_takeNumber 85 = .ok (.iconst 1, 1) := by decide +kernel
theorem d0_takeNumber_86 : decode b0_takeNumber 86 = .ok (.ireturn, 1) := by decide +kernel
abbrev b1_init : ByteArray := prog_3_method_1_code
def y1_init : MethodName := ⟨"ChannelSchedule$Plan", "<init>", "()V"⟩
theorem w1_init : YI y1_init b1_init 1 0 := ⟨LW_i 182 (by decide +kernel) (by decide +kernel), LW_i 33 (by decide +kernel) (by decide +kernel), LW_i 183 (by decide +kernel) (by decide +kernel), by decide +kernel, by decide +kernel, rfl⟩
theorem d1_init_0 : decode b1_init 0 = .ok (.aload_n 0, 1) := by decide +kernel
theorem d1_init_1 : decode b1_init 1 = .ok (.invokespecial 3, 3) := by decide +kernel
theorem d1_init_4 : decode b1_init 4 = .ok (.aload_n 0, 1) := by decide +kernel
theorem d1_init_5 : decode b1_init 5 = .ok (.iconst 0, 1) := by decide +kernel
theorem d1_init_6 : decode b1_init 6 = .ok (.putfield 9, 3) := by decide +kernel
theorem d1_init_9 : decode b1_init 9 = .ok (.aload_n 0, 1) := by decide +kernel
theorem d1_init_10 : decode b1_init 10 = .ok (.iconst 0, 1) := by decide +kernel
theorem d1_init_11 : decode b1_init 11 = .ok (.putfield 15, 3) := by decide +kernel
theorem d1_init_14 : decode b1_init 14 = .ok (.aload_n 0, 1) := by decide +kernel
theorem d1_init_15 : decode b1_init 15 = .ok (.iconst 0, 1) := by decide +kernel
theorem d1_init_16 : decode b1_init 16 = .ok (.putfield 18, 3) := by decide +kernel
theorem d1_init_19 : decode b1_init 19 = .ok (.aload_n 0, 1) := by decide +kernel
theorem d1_init_20 : decode b1_init 20 = .ok (.iconst 0, 1) := by decide +kernel
theorem d1_init_21 : decode b1_init 21 = .ok (.putfield 21, 3) := by decide +kernel
theorem d1_init_24 : decode b1_init 24 = .ok (.aload_n 0, 1) := by decide +kernel
theorem d1_init_25 : decode b1_init 25 = .ok (.iconst 0, 1) := by decide +kernel
theorem d1_init_26 : decode b1_init 26 = .ok (.putfield 24, 3) := by decide +kernel
theorem d1_init_29 : decode b1_init 29 = .ok (.aload_n 0, 1) := by decide +kernel
theorem d1_init_30 : decode b1_init 30 = .ok (.iconst 0, 1) := by decide +kernel
theorem d1_init_31 : decode b1_init 31 = .ok (.putfield 27, 3) := by decide +kernel
theorem d1_init_34 : decode b1_init 34 = .ok (.aload_n 0, 1) := by decide +kernel
theorem d1_init_35 : decode b1_init 35 = .ok (.bipush 20, 2) := by decide +kernel
theorem d1_init_37 : decode b1_init 37 = .ok (.newarray .int, 2) := by decide +kernel
theorem d1_init_39 : decode b1_init 39 = .ok (.putfield 30, 3) := by decide +kernel
theorem d1_init_42 : decode b1_init 42 = .ok (.aload_n 0, 1) := by decide +kernel
theorem d1_init_43 : decode b1_init 43 = .ok (.bipush 20, 2) := by decide +kernel
theorem d1_init_45 : decode b1_init 45 = .ok (.newarray .boolean, 2) := by decide +kernel
theorem d1_init_47 : decode b1_init 47 = .ok (.putfield 34, 3) := by decide +kernel
theorem d1_init_50 : decode b1_init 50 = .ok (.aload_n 0, 1) := by decide +kernel
theorem d1_init_51 : decode b1_init 51 = .ok (.bipush 20, 2) := by decide +kernel
theorem d1_init_53 : decode b1_init 53 = .ok (.newarray .int, 2) := by decide +kernel
theorem d1_init_55 : decode b1_init 55 = .ok (.putfield 38, 3) := by decide +kernel
theorem d1_init_58 : decode b1_init 58 = .ok (.aload_n 0, 1) := by decide +kernel
theorem d1_init_59 : decode b1_init 59 = .ok (.bipush 20, 2) := by decide +kernel
theorem d1_init_61 : decode b1_init 61 = .ok (.newarray .int, 2) := by decide +kernel
theorem d1_init_63 : decode b1_init 63 = .ok (.putfield 41, 3) := by decide +kernel
theorem d1_init_66 : decode b1_init 66 = .ok (.aload_n 0, 1) := by decide +kernel
theorem d1_init_67 : decode b1_init 67 = .ok (.iconst 0, 1) := by decide +kernel
theorem d1_init_68 : decode b1_init 68 = .ok (.putfield 44, 3) := by decide +kernel
theorem d1_init_71 : decode b1_init 71 = .ok (.aload_n 0, 1) := by decide +kernel
theorem d1_init_72 : decode b1_init 72 = .ok (.bipush 8, 2) := by decide +kernel
theorem d1_init_74 : decode b1_init 74 = .ok (.newarray .int, 2) := by decide +kernel
theorem d1_init_76 : decode b1_init 76 = .ok (.putfield 47, 3) := by decide +kernel
theorem d1_init_79 : decode b1_init 79 = .ok (.aload_n 0, 1) := by decide +kernel
theorem d1_init_80 : decode b1_init 80 = .ok (.bipush 8, 2) := by decide +kernel
theorem d1_init_82 : decode b1_init 82 = .ok (.newarray .boolean, 2) := by decide +kernel
theorem d1_init_84 : decode b1_init 84 = .ok (.putfield 50, 3) := by decide +kernel
theorem d1_init_87 : decode b1_init 87 = .ok (.aload_n 0, 1) := by decide +kernel
theorem d1_init_88 : decode b1_init 88 = .ok (.bipush 8, 2) := by decide +kernel
theorem d1_init_90 : decode b1_init 90 = .ok (.newarray .int, 2) := by decide +kernel
theorem d1_init_92 : decode b1_init 92 = .ok (.putfield 53, 3) := by decide +kernel
theorem d1_init_95 : decode b1_init 95 = .ok (.aload_n 0, 1) := by decide +kernel
theorem d1_init_96 : decode b1_init 96 = .ok (.bipush 8, 2) := by decide +kernel
theorem d1_init_98 : decode b1_init 98 = .ok (.newarray .int, 2) := by decide +kernel
theorem d1_init_100 : decode b1_init 100 = .ok (.putfield 56, 3) := by decide +kernel
theorem d1_init_103 : decode b1_init 103 = .ok (.return_, 1) := by decide +kernel
abbrev b1_startAnew : ByteArray := prog_3_method_2_code
def y1_startAnew : MethodName := ⟨"ChannelSchedule$Plan", "startAnew", "(I)V"⟩
theorem w1_startAnew : YV y1_startAnew b1_startAnew 2 none 1 := ⟨LW_i 375 (by decide +kernel) (by decide +kernel), LW_i 376 (by decide +kernel) (by decide +kernel), LW_i 33 (by decide +kernel) (by decide +kernel), LW_i 377 (by decide +kernel) (by decide +kernel), by decide +kernel, by decide +kernel⟩
theorem d1_startAnew_0 : decode b1_startAnew 0 = .ok (.aload_n 0, 1) := by decide +kernel
theorem d1_startAnew_1 : decode b1_startAnew 1 = .ok (.iload_n 1, 1) := by decide +kernel
theorem d1_startAnew_2 : decode b1_startAnew 2 = .ok (.putfield 9, 3) := by decide +kernel
theorem d1_startAnew_5 : decode b1_startAnew 5 = .ok (.aload_n 0, 1) := by decide +kernel
theorem d1_startAnew_6 : decode b1_startAnew 6 = .ok (.iconst 0, 1) := by decide +kernel
theorem d1_startAnew_7 : decode b1_startAnew 7 = .ok (.putfield 15, 3) := by decide +kernel
theorem d1_startAnew_10 : decode b1_startAnew 10 = .ok (.aload_n 0, 1) := by decide +kernel
theorem d1_startAnew_11 : decode b1_startAnew 11 = .ok (.iconst 0, 1) := by decide +kernel
theorem d1_startAnew_12 : decode b1_startAnew 12 = .ok (.putfield 18, 3) := by decide +kernel
theorem d1_startAnew_15 : decode b1_startAnew 15 = .ok (.aload_n 0, 1) := by decide +kernel
theorem d1_startAnew_16 : decode b1_startAnew 16 = .ok (.iconst 0, 1) := by decide +kernel
theorem d1_startAnew_17 : decode b1_startAnew 17 = .ok (.putfield 21, 3) := by decide +kernel
theorem d1_startAnew_20 : decode b1_startAnew 20 = .ok (.aload_n 0, 1) := by decide +kernel
theorem d1_startAnew_21 : decode b1_startAnew 21 = .ok (.iconst 0, 1) := by decide +kernel
theorem d1_startAnew_22 : decode b1_startAnew 22 = .ok (.putfield 24, 3) := by decide +kernel
theorem d1_startAnew_25 : decode b1_startAnew 25 = .ok (.aload_n 0, 1) := by decide +kernel
theorem d1_startAnew_26 : decode b1_startAnew 26 = .ok (.iconst 0, 1) := by decide +kernel
theorem d1_startAnew_27 : decode b1_startAnew 27 = .ok (.putfield 27, 3) := by decide +kernel
theorem d1_startAnew_30 : decode b1_startAnew 30 = .ok (.aload_n 0, 1) := by decide +kernel
theorem d1_startAnew_31 : decode b1_startAnew 31 = .ok (.iconst 0, 1) := by decide +kernel
theorem d1_startAnew_32 : decode b1_startAnew 32 = .ok (.putfield 44, 3) := by decide +kernel
theorem d1_startAnew_35 : decode b1_startAnew 35 = .ok (.return_, 1) := by decide +kernel
abbrev b1_copyFrom : ByteArray := prog_3_method_3_code
def y1_copyFrom : MethodName := ⟨"ChannelSchedule$Plan", "copyFrom", "(LChannelSchedule$Plan;)V"⟩
theorem w1_copyFrom : YV y1_copyFrom b1_copyFrom 3 none 1 := ⟨LW_i 601 (by decide +kernel) (by decide +kernel), LW_i 602 (by decide +kernel) (by decide +kernel), LW_i 33 (by decide +kernel) (by decide +kernel), LW_i 603 (by decide +kernel) (by decide +kernel), by decide +kernel, by decide +kernel⟩
theorem d1_copyFrom_0 : decode b1_copyFrom 0 = .ok (.aload_n 0, 1) := by decide +kernel
theorem d1_copyFrom_1 : decode b1_copyFrom 1 = .ok (.aload_n 1, 1) := by decide +kernel
theorem d1_copyFrom_2 : decode b1_copyFrom 2 = .ok (.getfield 9, 3) := by decide +kernel
theorem d1_copyFrom_5 : decode b1_copyFrom 5 = .ok (.putfield 9, 3) := by decide +kernel
theorem d1_copyFrom_8 : decode b1_copyFrom 8 = .ok (.aload_n 0, 1) := by decide +kernel
theorem d1_copyFrom_9 : decode b1_copyFrom 9 = .ok (.aload_n 1, 1) := by decide +kernel
theorem d1_copyFrom_10 : decode b1_copyFrom 10 = .ok (.getfield 15, 3) := by decide +kernel
theorem d1_copyFrom_13 : decode b1_copyFrom 13 = .ok (.putfield 15, 3) := by decide +kernel
theorem d1_copyFrom_16 : decode b1_copyFrom 16 = .ok (.aload_n 0, 1) := by decide +kernel
theorem d1_copyFrom_17 : decode b1_copyFrom 17 = .ok (.aload_n 1, 1) := by decide +kernel
theorem d1_copyFrom_18 : decode b1_copyFrom 18 = .ok (.getfield 18, 3) := by decide +kernel
theorem d1_copyFrom_21 : decode b1_copyFrom 21 = .ok (.putfield 18, 3) := by decide +kernel
theorem d1_copyFrom_24 : decode b1_copyFrom 24 = .ok (.aload_n 0, 1) := by decide +kernel
theorem d1_copyFrom_25 : decode b1_copyFrom 25 = .ok (.aload_n 1, 1) := by decide +kernel
theorem d1_copyFrom_26 : decode b1_copyFrom 26 = .ok (.getfield 21, 3) := by decide +kernel
theorem d1_copyFrom_29 : decode b1_copyFrom 29 = .ok (.putfield 21, 3) := by decide +kernel
theorem d1_copyFrom_32 : decode b1_copyFrom 32 = .ok (.aload_n 0, 1) := by decide +kernel
theorem d1_copyFrom_33 : decode b1_copyFrom 33 = .ok (.aload_n 1, 1) := by decide +kernel
theorem d1_copyFrom_34 : decode b1_copyFrom 34 = .ok (.getfield 24, 3) := by decide +kernel
theorem d1_copyFrom_37 : decode b1_copyFrom 37 = .ok (.putfield 24, 3) := by decide +kernel
theorem d1_copyFrom_40 : decode b1_copyFrom 40 = .ok (.aload_n 0, 1) := by decide +kernel
theorem d1_copyFrom_41 : decode b1_copyFrom 41 = .ok (.aload_n 1, 1) := by decide +kernel
theorem d1_copyFrom_42 : decode b1_copyFrom 42 = .ok (.getfield 27, 3) := by decide +kernel
theorem d1_copyFrom_45 : decode b1_copyFrom 45 = .ok (.putfield 27, 3) := by decide +kernel
theorem d1_copyFrom_48 : decode b1_copyFrom 48 = .ok (.iconst 0, 1) := by decide +kernel
theorem d1_copyFrom_49 : decode b1_copyFrom 49 = .ok (.istore_n 2, 1) := by decide +kernel
theorem d1_copyFrom_50 : decode b1_copyFrom 50 = .ok (.iload_n 2, 1) := by decide +kernel
theorem d1_copyFrom_51 : decode b1_copyFrom 51 = .ok (.aload_n 0, 1) := by decide +kernel
theorem d1_copyFrom_52 : decode b1_copyFrom 52 = .ok (.getfield 27, 3) := by decide +kernel
theorem d1_copyFrom_55 : decode b1_copyFrom 55 = .ok (.if_icmp .ge 38, 3) := by decide +kernel
theorem d1_copyFrom_58 : decode b1_copyFrom 58 = .ok (.aload_n 0, 1) := by decide +kernel
theorem d1_copyFrom_59 : decode b1_copyFrom 59 = .ok (.iload_n 2, 1) := by decide +kernel
theorem d1_copyFrom_60 : decode b1_copyFrom 60 = .ok (.aload_n 1, 1) := by decide +kernel
theorem d1_copyFrom_61 : decode b1_copyFrom 61 = .ok (.getfield 30, 3) := by decide +kernel
theorem d1_copyFrom_64 : decode b1_copyFrom 64 = .ok (.iload_n 2, 1) := by decide +kernel
theorem d1_copyFrom_65 : decode b1_copyFrom 65 = .ok (.iaload, 1) := by decide +kernel
theorem d1_copyFrom_66 : decode b1_copyFrom 66 = .ok (.aload_n 1, 1) := by decide +kernel
theorem d1_copyFrom_67 : decode b1_copyFrom 67 = .ok (.getfield 34, 3) := by decide +kernel
theorem d1_copyFrom_70 : decode b1_copyFrom 70 = .ok (.iload_n 2, 1) := by decide +kernel
theorem d1_copyFrom_71 : decode b1_copyFrom 71 = .ok (.baload, 1) := by decide +kernel
theorem d1_copyFrom_72 : decode b1_copyFrom 72 = .ok (.aload_n 1, 1) := by decide +kernel
theorem d1_copyFrom_73 : decode b1_copyFrom 73 = .ok (.getfield 38, 3) := by decide +kernel
theorem d1_copyFrom_76 : decode b1_copyFrom 76 = .ok (.iload_n 2, 1) := by decide +kernel
theorem d1_copyFrom_77 : decode b1_copyFrom 77 = .ok (.iaload, 1) := by decide +kernel
theorem d1_copyFrom_78 : decode b1_copyFrom 78 = .ok (.aload_n 1, 1) := by decide +kernel
theorem d1_copyFrom_79 : decode b1_copyFrom 79 = .ok (.getfield 41, 3) := by decide +kernel
theorem d1_copyFrom_82 : decode b1_copyFrom 82 = .ok (.iload_n 2, 1) := by decide +kernel
theorem d1_copyFrom_83 : decode b1_copyFrom 83 = .ok (.iaload, 1) := by decide +kernel
theorem d1_copyFrom_84 : decode b1_copyFrom 84 = .ok (.invokevirtual 59, 3) := by decide +kernel
theorem d1_copyFrom_87 : decode b1_copyFrom 87 = .ok (.iinc 2 1, 3) := by decide +kernel
theorem d1_copyFrom_90 : decode b1_copyFrom 90 = .ok (.goto (-40), 3) := by decide +kernel
theorem d1_copyFrom_93 : decode b1_copyFrom 93 = .ok (.aload_n 0, 1) := by decide +kernel
theorem d1_copyFrom_94 : decode b1_copyFrom 94 = .ok (.aload_n 1, 1) := by decide +kernel
theorem d1_copyFrom_95 : decode b1_copyFrom 95 = .ok (.getfield 44, 3) := by decide +kernel
theorem d1_copyFrom_98 : decode b1_copyFrom 98 = .ok (.putfield 44, 3) := by decide +kernel
theorem d1_copyFrom_101 : decode b1_copyFrom 101 = .ok (.iconst 0, 1) := by decide +kernel
theorem d1_copyFrom_102 : decode b1_copyFrom 102 = .ok (.istore_n 2, 1) := by decide +kernel
theorem d1_copyFrom_103 : decode b1_copyFrom 103 = .ok (.iload_n 2, 1) := by decide +kernel
theorem d1_copyFrom_104 : decode b1_copyFrom 104 = .ok (.aload_n 0, 1) := by decide +kernel
theorem d1_copyFrom_105 : decode b1_copyFrom 105 = .ok (.getfield 44, 3) := by decide +kernel
theorem d1_copyFrom_108 : decode b1_copyFrom 108 = .ok (.if_icmp .ge 38, 3) := by decide +kernel
theorem d1_copyFrom_111 : decode b1_copyFrom 111 = .ok (.aload_n 0, 1) := by decide +kernel
theorem d1_copyFrom_112 : decode b1_copyFrom 112 = .ok (.iload_n 2, 1) := by decide +kernel
theorem d1_copyFrom_113 : decode b1_copyFrom 113 = .ok (.aload_n 1, 1) := by decide +kernel
theorem d1_copyFrom_114 : decode b1_copyFrom 114 = .ok (.getfield 47, 3) := by decide +kernel
theorem d1_copyFrom_117 : decode b1_copyFrom 117 = .ok (.iload_n 2, 1) := by decide +kernel
theorem d1_copyFrom_118 : decode b1_copyFrom 118 = .ok (.iaload, 1) := by decide +kernel
theorem d1_copyFrom_119 : decode b1_copyFrom 119 = .ok (.aload_n 1, 1) := by decide +kernel
theorem d1_copyFrom_120 : decode b1_copyFrom 120 = .ok (.getfield 50, 3) := by decide +kernel
theorem d1_copyFrom_123 : decode b1_copyFrom 123 = .ok (.iload_n 2, 1) := by decide +kernel
theorem d1_copyFrom_124 : decode b1_copyFrom 124 = .ok (.baload, 1) := by decide +kernel
theorem d1_copyFrom_125 : decode b1_copyFrom 125 = .ok (.aload_n 1, 1) := by decide +kernel
theorem d1_copyFrom_126 : decode b1_copyFrom 126 = .ok (.getfield 53, 3) := by decide +kernel
theorem d1_copyFrom_129 : decode b1_copyFrom 129 = .ok (.iload_n 2, 1) := by decide +kernel
theorem d1_copyFrom_130 : decode b1_copyFrom 130 = .ok (.iaload, 1) := by decide +kernel
theorem d1_copyFrom_131 : decode b1_copyFrom 131 = .ok (.aload_n 1, 1) := by decide +kernel
theorem d1_copyFrom_132 : decode b1_copyFrom 132 = .ok (.getfield 56, 3) := by decide +kernel
theorem d1_copyFrom_135 : decode b1_copyFrom 135 = .ok (.iload_n 2, 1) := by decide +kernel
theorem d1_copyFrom_136 : decode b1_copyFrom 136 = .ok (.iaload, 1) := by decide +kernel
theorem d1_copyFrom_137 : decode b1_copyFrom 137 = .ok (.invokevirtual 63, 3) := by decide +kernel
theorem d1_copyFrom_140 : decode b1_copyFrom 140 = .ok (.iinc 2 1, 3) := by decide +kernel
theorem d1_copyFrom_143 : decode b1_copyFrom 143 = .ok (.goto (-40), 3) := by decide +kernel
theorem d1_copyFrom_146 : decode b1_copyFrom 146 = .ok (.return_, 1) := by decide +kernel
abbrev b1_putBooking : ByteArray := prog_3_method_4_code
def y1_putBooking : MethodName := ⟨"ChannelSchedule$Plan", "putBooking", "(IIZII)V"⟩
theorem w1_putBooking : YV y1_putBooking b1_putBooking 6 none 5 := ⟨LW_i 605 (by decide +kernel) (by decide +kernel), LW_i 606 (by decide +kernel) (by decide +kernel), LW_i 33 (by decide +kernel) (by decide +kernel), LW_i 607 (by decide +kernel) (by decide +kernel), by decide +kernel, by decide +kernel⟩
theorem d1_putBooking_0 : decode b1_putBooking 0 = .ok (.aload_n 0, 1) := by decide +kernel
theorem d1_putBooking_1 : decode b1_putBooking 1 = .ok (.getfield 30, 3) := by decide +kernel
theorem d1_putBooking_4 : decode b1_putBooking 4 = .ok (.iload_n 1, 1) := by decide +kernel
theorem d1_putBooking_5 : decode b1_putBooking 5 = .ok (.iload_n 2, 1) := by decide +kernel
theorem d1_putBooking_6 : decode b1_putBooking 6 = .ok (.iastore, 1) := by decide +kernel
theorem d1_putBooking_7 : decode b1_putBooking 7 = .ok (.aload_n 0, 1) := by decide +kernel
theorem d1_putBooking_8 : decode b1_putBooking 8 = .ok (.getfield 34, 3) := by decide +kernel
theorem d1_putBooking_11 : decode b1_putBooking 11 = .ok (.iload_n 1, 1) := by decide +kernel
theorem d1_putBooking_12 : decode b1_putBooking 12 = .ok (.iload_n 3, 1) := by decide +kernel
theorem d1_putBooking_13 : decode b1_putBooking 13 = .ok (.bastore, 1) := by decide +kernel
theorem d1_putBooking_14 : decode b1_putBooking 14 = .ok (.aload_n 0, 1) := by decide +kernel
theorem d1_putBooking_15 : decode b1_putBooking 15 = .ok (.getfield 38, 3) := by decide +kernel
theorem d1_putBooking_18 : decode b1_putBooking 18 = .ok (.iload_n 1, 1) := by decide +kernel
theorem d1_putBooking_19 : decode b1_putBooking 19 = .ok (.iload 4, 2) := by decide +kernel
theorem d1_putBooking_21 : decode b1_putBooking 21 = .ok (.iastore, 1) := by decide +kernel
theorem d1_putBooking_22 : decode b1_putBooking 22 = .ok (.aload_n 0, 1) := by decide +kernel
theorem d1_putBooking_23 : decode b1_putBooking 23 = .ok (.getfield 41, 3) := by decide +kernel
theorem d1_putBooking_26 : decode b1_putBooking 26 = .ok (.iload_n 1, 1) := by decide +kernel
theorem d1_putBooking_27 : decode b1_putBooking 27 = .ok (.iload 5, 2) := by decide +kernel
theorem d1_putBooking_29 : decode b1_putBooking 29 = .ok (.iastore, 1) := by decide +kernel
theorem d1_putBooking_30 : decode b1_putBooking 30 = .ok (.return_, 1) := by decide +kernel
abbrev b1_insertBooking : ByteArray := prog_3_method_5_code
def y1_insertBooking : MethodName := ⟨"ChannelSchedule$Plan", "insertBooking", "(IZII)V"⟩
theorem w1_insertBooking : YV y1_insertBooking b1_insertBooking 6 none 4 := ⟨LW_i 617 (by decide +kernel) (by decide +kernel), LW_i 618 (by decide +kernel) (by decide +kernel), LW_i 33 (by decide +kernel) (by decide +kernel), LW_i 619 (by decide +kernel) (by decide +kernel), by decide +kernel, by decide +kernel⟩
theorem d1_insertBooking_0 : decode b1_insertBooking 0 = .ok (.aload_n 0, 1) := by decide +kernel
theorem d1_insertBooking_1 : decode b1_insertBooking 1 = .ok (.getfield 27, 3) := by decide +kernel
theorem d1_insertBooking_4 : decode b1_insertBooking 4 = .ok (.bipush 20, 2) := by decide +kernel
theorem d1_insertBooking_6 : decode b1_insertBooking 6 = .ok (.if_icmp .lt 4, 3) := by decide +kernel
theorem d1_insertBooking_9 : decode b1_insertBooking 9 = .ok (.return_, 1) := by decide +kernel
theorem d1_insertBooking_10 : decode b1_insertBooking 10 = .ok (.aload_n 0, 1) := by decide +kernel
theorem d1_insertBooking_11 : decode b1_insertBooking 11 = .ok (.getfield 27, 3) := by decide +kernel
theorem d1_insertBooking_14 : decode b1_insertBooking 14 = .ok (.istore 5, 2) := by decide +kernel
theorem d1_insertBooking_16 : decode b1_insertBooking 16 = .ok (.iload 5, 2) := by decide +kernel
theorem d1_insertBooking_18 : decode b1_insertBooking 18 = .ok (.ifCond .le 64, 3) := by decide +kernel
theorem d1_insertBooking_21 : decode b1_insertBooking 21 = .ok (.aload_n 0, 1) := by decide +kernel
theorem d1_insertBooking_22 : decode b1_insertBooking 22 = .ok (.getfield 38, 3) := by decide +kernel
theorem d1_insertBooking_25 : decode b1_insertBooking 25 = .ok (.iload 5, 2) := by decide +kernel
theorem d1_insertBooking_27 : decode b1_insertBooking 27 = .ok (.iconst 1, 1) := by decide +kernel
theorem d1_insertBooking_28 : decode b1_insertBooking 28 = .ok (.isub, 1) := by decide +kernel
theorem d1_insertBooking_29 : decode b1_insertBooking 29 = .ok (.iaload, 1) := by decide +kernel
theorem d1_insertBooking_30 : decode b1_insertBooking 30 = .ok (.iload_n 3, 1) := by decide +kernel
theorem d1_insertBooking_31 : decode b1_insertBooking 31 = .ok (.if_icmp .le 51, 3) := by decide +kernel
theorem d1_insertBooking_34 : decode b1_insertBooking 34 = .ok (.aload_n 0, 1) := by decide +kernel
theorem d1_insertBooking_35 : decode b1_insertBooking 35 = .ok (.iload 5, 2) := by decide +kernel
theorem d1_insertBooking_37 : decode b1_insertBooking 37 = .ok (.aload_n 0, 1) := by decide +kernel
theorem d1_insertBooking_38 : decode b1_insertBooking 38 = .ok (.getfield 30, 3) := by decide +kernel
theorem d1_insertBooking_41 : decode b1_insertBooking 41 = .ok (.iload 5, 2) := by decide +kernel
theorem d1_insertBooking_43 : decode b1_insertBooking 43 = .ok (.iconst 1, 1) := by decide +kernel
theorem d1_insertBooking_44 : decode b1_insertBooking 44 = .ok (.isub, 1) := by decide +kernel
theorem d1_insertBooking_45 : decode b1_insertBooking 45 = .ok (.iaload, 1) := by decide +kernel
theorem d1_insertBooking_46 : decode b1_insertBooking 46 = .ok (.aload_n 0, 1) := by decide +kernel
theorem d1_insertBooking_47 : decode b1_insertBooking 47 = .ok (.getfield 34, 3) := by decide +kernel
theorem d1_insertBooking_50 : decode b1_insertBooking 50 = .ok (.iload 5, 2) := by decide +kernel
theorem d1_insertBooking_52 : decode b1_insertBooking 52 = .ok (.iconst 1, 1) := by decide +kernel
theorem d1_insertBooking_53 : decode b1_insertBooking 53 = .ok (.isub, 1) := by decide +kernel
theorem d1_insertBooking_54 : decode b1_insertBooking 54 = .ok (.baload, 1) := by decide +kernel
theorem d1_insertBooking_55 : decode b1_insertBooking 55 = .ok (.aload_n 0, 1) := by decide +kernel
theorem d1_insertBooking_56 : decode b1_insertBooking 56 = .ok (.getfield 38, 3) := by decide +kernel
theorem d1_insertBooking_59 : decode b1_insertBooking 59 = .ok (.iload 5, 2) := by decide +kernel
theorem d1_insertBooking_61 : decode b1_insertBooking 61 = .ok (.iconst 1, 1) := by decide +kernel
theorem d1_insertBooking_62 : decode b1_insertBooking 62 = .ok (.isub, 1) := by decide +kernel
theorem d1_insertBooking_63 : decode b1_insertBooking 63 = .ok (.iaload, 1) := by decide +kernel
theorem d1_insertBooking_64 : decode b1_insertBooking 64 = .ok (.aload_n 0, 1) := by decide +kernel
theorem d1_insertBooking_65 : decode b1_insertBooking 65 = .ok (.getfield 41, 3) := by decide +kernel
theorem d1_insertBooking_68 : decode b1_insertBooking 68 = .ok (.iload 5, 2) := by decide +kernel
theorem d1_insertBooking_70 : decode b1_insertBooking 70 = .ok (.iconst 1, 1) := by decide +kernel
theorem d1_insertBooking_71 : decode b1_insertBooking 71 = .ok (.isub, 1) := by decide +kernel
theorem d1_insertBooking_72 : decode b1_insertBooking 72 = .ok (.iaload, 1) := by decide +kernel
theorem d1_insertBooking_73 : decode b1_insertBooking 73 = .ok (.invokevirtual 59, 3) := by decide +kernel
theorem d1_insertBooking_76 : decode b1_insertBooking 76 = .ok (.iinc 5 (-1), 3) := by decide +kernel
theorem d1_insertBooking_79 : decode b1_insertBooking 79 = .ok (.goto (-63), 3) := by decide +kernel
theorem d1_insertBooking_82 : decode b1_insertBooking 82 = .ok (.aload_n 0, 1) := by decide +kernel
theorem d1_insertBooking_83 : decode b1_insertBooking 83 = .ok (.iload 5, 2) := by decide +kernel
theorem d1_insertBooking_85 : decode b1_insertBooking 85 = .ok (.iload_n 1, 1) := by decide +kernel
theorem d1_insertBooking_86 : decode b1_insertBooking 86 = .ok (.iload_n 2, 1) := by decide +kernel
theorem d1_insertBooking_87 : decode b1_insertBooking 87 = .ok (.iload_n 3, 1) := by decide +kernel
theorem d1_insertBooking_88 : decode b1_insertBooking 88 = .ok (.iload 4, 2) := by decide +kernel
theorem d1_insertBooking_90 : decode b1_insertBooking 90 = .ok (.invokevirtual 59, 3) := by decide +kernel
theorem d1_insertBooking_93 : decode b1_insertBooking 93 = .ok (.aload_n 0, 1) := by decide +kernel
theorem d1_insertBooking_94 : decode b1_insertBooking 94 = .ok (.dup, 1) := by decide +kernel
theorem d1_insertBooking_95 : decode b1_insertBooking 95 = .ok (.getfield 27, 3) := by decide +kernel
theorem d1_insertBooking_98 : decode b1_insertBooking 98 = .ok (.iconst 1, 1) := by decide +kernel
theorem d1_insertBooking_99 : decode b1_insertBooking 99 = .ok (.iadd, 1) := by decide +kernel
theorem d1_insertBooking_100 : decode b1_insertBooking 100 = .ok (.putfield 27, 3) := by decide +kernel
theorem d1_insertBooking_103 : decode b1_insertBooking 103 = .ok (.return_, 1) := by decide +kernel
abbrev b1_removeBooking : ByteArray := prog_3_method_6_code
def y1_removeBooking : MethodName := ⟨"ChannelSchedule$Plan", "removeBooking", "(I)V"⟩
theorem w1_removeBooking : YV y1_removeBooking b1_removeBooking 3 none 1 := ⟨LW_i 657 (by decide +kernel) (by decide +kernel), LW_i 658 (by decide +kernel) (by decide +kernel), LW_i 33 (by decide +kernel) (by decide +kernel), LW_i 659 (by decide +kernel) (by decide +kernel), by decide +kernel, by decide +kernel⟩
theorem d1_removeBooking_0 : decode b1_removeBooking 0 = .ok (.iload_n 1, 1) := by decide +kernel
theorem d1_removeBooking_1 : decode b1_removeBooking 1 = .ok (.iconst 1, 1) := by decide +kernel
theorem d1_removeBooking_2 : decode b1_removeBooking 2 = .ok (.iadd, 1) := by decide +kernel
theorem d1_removeBooking_3 : decode b1_removeBooking 3 = .ok (.istore_n 2, 1) := by decide +kernel
theorem d1_removeBooking_4 : decode b1_removeBooking 4 = .ok (.iload_n 2, 1) := by decide +kernel
theorem d1_removeBooking_5 : decode b1_removeBooking 5 = .ok (.aload_n 0, 1) := by decide +kernel
theorem d1_removeBooking_6 : decode b1_removeBooking 6 = .ok (.getfield 27, 3) := by decide +kernel
theorem d1_removeBooking_9 : decode b1_removeBooking 9 = .ok (.if_icmp .ge 40, 3) := by decide +kernel
theorem d1_removeBooking_12 : decode b1_removeBooking 12 = .ok (.aload_n 0, 1) := by decide +kernel
theorem d1_removeBooking_13 : decode b1_removeBooking 13 = .ok (.iload_n 2, 1) := by decide +kernel
theorem d1_removeBooking_14 : decode b1_removeBooking 14 = .ok (.iconst 1, 1) := by decide +kernel
theorem d1_removeBooking_15 : decode b1_removeBooking 15 = .ok (.isub, 1) := by decide +kernel
theorem d1_removeBooking_16 : decode b1_removeBooking 16 = .ok (.aload_n 0, 1) := by decide +kernel
theorem d1_removeBooking_17 : decode b1_removeBooking 17 = .ok (.getfield 30, 3) := by decide +kernel
theorem d1_removeBooking_20 : decode b1_removeBooking 20 = .ok (.iload_n 2, 1) := by decide +kernel
theorem d1_removeBooking_21 : decode b1_removeBooking 21 = .ok (.iaload, 1) := by decide +kernel
theorem d1_removeBooking_22 : decode b1_removeBooking 22 = .ok (.aload_n 0, 1) := by decide +kernel
theorem d1_removeBooking_23 : decode b1_removeBooking 23 = .ok (.getfield 34, 3) := by decide +kernel
theorem d1_removeBooking_26 : decode b1_removeBooking 26 = .ok (.iload_n 2, 1) := by decide +kernel
theorem d1_removeBooking_27 : decode b1_removeBooking 27 = .ok (.baload, 1) := by decide +kernel
theorem d1_removeBooking_28 : decode b1_removeBooking 28 = .ok (.aload_n 0, 1) := by decide +kernel
theorem d1_removeBooking_29 : decode b1_removeBooking 29 = .ok (.getfield 38, 3) := by decide +kernel
theorem d1_removeBooking_32 : decode b1_removeBooking 32 = .ok (.iload_n 2, 1) := by decide +kernel
theorem d1_removeBooking_33 : decode b1_removeBooking 33 = .ok (.iaload, 1) := by decide +kernel
theorem d1_removeBooking_34 : decode b1_removeBooking 34 = .ok (.aload_n 0, 1) := by decide +kernel
theorem d1_removeBooking_35 : decode b1_removeBooking 35 = .ok (.getfield 41, 3) := by decide +kernel
theorem d1_removeBooking_38 : decode b1_removeBooking 38 = .ok (.iload_n 2, 1) := by decide +kernel
theorem d1_removeBooking_39 : decode b1_removeBooking 39 = .ok (.iaload, 1) := by decide +kernel
theorem d1_removeBooking_40 : decode b1_removeBooking 40 = .ok (.invokevirtual 59, 3) := by decide +kernel
theorem d1_removeBooking_43 : decode b1_removeBooking 43 = .ok (.iinc 2 1, 3) := by decide +kernel
theorem d1_removeBooking_46 : decode b1_removeBooking 46 = .ok (.goto (-42), 3) := by decide +kernel
theorem d1_removeBooking_49 : decode b1_removeBooking 49 = .ok (.aload_n 0, 1) := by decide +kernel
theorem d1_removeBooking_50 : decode b1_removeBooking 50 = .ok (.dup, 1) := by decide +kernel
theorem d1_removeBooking_51 : decode b1_removeBooking 51 = .ok (.getfield 27, 3) := by decide +kernel
theorem d1_removeBooking_54 : decode b1_removeBooking 54 = .ok (.iconst 1, 1) := by decide +kernel
theorem d1_removeBooking_55 : decode b1_removeBooking 55 = .ok (.isub, 1) := by decide +kernel
theorem d1_removeBooking_56 : decode b1_removeBooking 56 = .ok (.putfield 27, 3) := by decide +kernel
theorem d1_removeBooking_59 : decode b1_removeBooking 59 = .ok (.return_, 1) := by decide +kernel
abbrev b1_putRequest : ByteArray := prog_3_method_7_code
def y1_putRequest : MethodName := ⟨"ChannelSchedule$Plan", "putRequest", "(IIZII)V"⟩
theorem w1_putRequest : YV y1_putRequest b1_putRequest 6 none 5 := ⟨LW_i 609 (by decide +kernel) (by decide +kernel), LW_i 610 (by decide +kernel) (by decide +kernel), LW_i 33 (by decide +kernel) (by decide +kernel), LW_i 611 (by decide +kernel) (by decide +kernel), by decide +kernel, by decide +kernel⟩
theorem d1_putRequest_0 : decode b1_putRequest 0 = .ok (.aload_n 0, 1) := by decide +kernel
theorem d1_putRequest_1 : decode b1_putRequest 1 = .ok (.getfield 47, 3) := by decide +kernel
theorem d1_putRequest_4 : decode b1_putRequest 4 = .ok (.iload_n 1, 1) := by decide +kernel
theorem d1_putRequest_5 : decode b1_putRequest 5 = .ok (.iload_n 2, 1) := by decide +kernel
theorem d1_putRequest_6 : decode b1_putRequest 6 = .ok (.iastore, 1) := by decide +kernel
theorem d1_putRequest_7 : decode b1_putRequest 7 = .ok (.aload_n 0, 1) := by decide +kernel
theorem d1_putRequest_8 : decode b1_putRequest 8 = .ok (.getfield 50, 3) := by decide +kernel
theorem d1_putRequest_11 : decode b1_putRequest 11 = .ok (.iload_n 1, 1) := by decide +kernel
theorem d1_putRequest_12 : decode b1_putRequest 12 = .ok (.iload_n 3, 1) := by decide +kernel
theorem d1_putRequest_13 : decode b1_putRequest 13 = .ok (.bastore, 1) := by decide +kernel
theorem d1_putRequest_14 : decode b1_putRequest 14 = .ok (.aload_n 0, 1) := by decide +kernel
theorem d1_putRequest_15 : decode b1_putRequest 15 = .ok (.getfield 53, 3) := by decide +kernel
theorem d1_putRequest_18 : decode b1_putRequest 18 = .ok (.iload_n 1, 1) := by decide +kernel
theorem d1_putRequest_19 : decode b1_putRequest 19 = .ok (.iload 4, 2) := by decide +kernel
theorem d1_putRequest_21 : decode b1_putRequest 21 = .ok (.iastore, 1) := by decide +kernel
theorem d1_putRequest_22 : decode b1_putRequest 22 = .ok (.aload_n 0, 1) := by decide +kernel
theorem d1_putRequest_23 : decode b1_putRequest 23 = .ok (.getfield 56, 3) := by decide +kernel
theorem d1_putRequest_26 : decode b1_putRequest 26 = .ok (.iload_n 1, 1) := by decide +kernel
theorem d1_putRequest_27 : decode b1_putRequest 27 = .ok (.iload 5, 2) := by decide +kernel
theorem d1_putRequest_29 : decode b1_putRequest 29 = .ok (.iastore, 1) := by decide +kernel
theorem d1_putRequest_30 : decode b1_putRequest 30 = .ok (.return_, 1) := by decide +kernel
abbrev b1_addRequest : ByteArray := prog_3_method_8_code
def y1_addRequest : MethodName := ⟨"ChannelSchedule$Plan", "addRequest", "(IZII)V"⟩
theorem w1_addRequest : YV y1_addRequest b1_addRequest 5 none 4 := ⟨LW_i 641 (by decide +kernel) (by decide +kernel), LW_i 642 (by decide +kernel) (by decide +kernel), LW_i 33 (by decide +kernel) (by decide +kernel), LW_i 643 (by decide +kernel) (by decide +kernel), by decide +kernel, by decide +kernel⟩
theorem d1_addRequest_0 : decode b1_addRequest 0 = .ok (.aload_n 0, 1) := by decide +kernel
theorem d1_addRequest_1 : decode b1_addRequest 1 = .ok (.getfield 44, 3) := by decide +kernel
theorem d1_addRequest_4 : decode b1_addRequest 4 = .ok (.bipush 8, 2) := by decide +kernel
theorem d1_addRequest_6 : decode b1_addRequest 6 = .ok (.if_icmp .ge 26, 3) := by decide +kernel
theorem d1_addRequest_9 : decode b1_addRequest 9 = .ok (.aload_n 0, 1) := by decide +kernel
theorem d1_addRequest_10 : decode b1_addRequest 10 = .ok (.aload_n 0, 1) := by decide +kernel
theorem d1_addRequest_11 : decode b1_addRequest 11 = .ok (.getfield 44, 3) := by decide +kernel
theorem d1_addRequest_14 : decode b1_addRequest 14 = .ok (.iload_n 1, 1) := by decide +kernel
theorem d1_addRequest_15 : decode b1_addRequest 15 = .ok (.iload_n 2, 1) := by decide +kernel
theorem d1_addRequest_16 : decode b1_addRequest 16 = .ok (.iload_n 3, 1) := by decide +kernel
theorem d1_addRequest_17 : decode b1_addRequest 17 = .ok (.iload 4, 2) := by decide +kernel
theorem d1_addRequest_19 : decode b1_addRequest 19 = .ok (.invokevirtual 63, 3) := by decide +kernel
theorem d1_addRequest_22 : decode b1_addRequest 22 = .ok (.aload_n 0, 1) := by decide +kernel
theorem d1_addRequest_23 : decode b1_addRequest 23 = .ok (.dup, 1) := by decide +kernel
theorem d1_addRequest_24 : decode b1_addRequest 24 = .ok (.getfield 44, 3) := by decide +kernel
theorem d1_addRequest_27 : decode b1_addRequest 27 = .ok (.iconst 1, 1) := by decide +kernel
theorem d1_addRequest_28 : decode b1_addRequest 28 = .ok (.iadd, 1) := by decide +kernel
theorem d1_addRequest_29 : decode b1_addRequest 29 = .ok (.putfield 44, 3) := by decide +kernel
theorem d1_addRequest_32 : decode b1_addRequest 32 = .ok (.return_, 1) := by decide +kernel
abbrev b1_removeRequest : ByteArray := prog_3_method_9_code
def y1_removeRequest : MethodName := ⟨"ChannelSchedule$Plan", "removeRequest", "(I)V"⟩
theorem w1_removeRequest : YV y1_removeRequest b1_removeRequest 3 none 1 := ⟨LW_i 665 (by decide +kernel) (by decide +kernel), LW_i 666 (by decide +kernel) (by decide +kernel), LW_i 33 (by decide +kernel) (by decide +kernel), LW_i 667 (by decide +kernel) (by decide +kernel), by decide +kernel, by decide +kernel⟩
theorem d1_removeRequest_0 : decode b1_removeRequest 0 = .ok (.iload_n 1, 1) := by decide +kernel
theorem d1_removeRequest_1 : decode b1_removeRequest 1 = .ok (.iconst 1, 1) := by decide +kernel
theorem d1_removeRequest_2 : decode b1_removeRequest 2 = .ok (.iadd, 1) := by decide +kernel
theorem d1_removeRequest_3 : decode b1_removeRequest 3 = .ok (.istore_n 2, 1) := by decide +kernel
theorem d1_removeRequest_4 : decode b1_removeRequest 4 = .ok (.iload_n 2, 1) := by decide +kernel
theorem d1_removeRequest_5 : decode b1_removeRequest 5 = .ok (.aload_n 0, 1) := by decide +kernel
theorem d1_removeRequest_6 : decode b1_removeRequest 6 = .ok (.getfield 44, 3) := by decide +kernel
theorem d1_removeRequest_9 : decode b1_removeRequest 9 = .ok (.if_icmp .ge 40, 3) := by decide +kernel
theorem d1_removeRequest_12 : decode b1_removeRequest 12 = .ok (.aload_n 0, 1) := by decide +kernel
theorem d1_removeRequest_13 : decode b1_removeRequest 13 = .ok (.iload_n 2, 1) := by decide +kernel
theorem d1_removeRequest_14 : decode b1_removeRequest 14 = .ok (.iconst 1, 1) := by decide +kernel
theorem d1_removeRequest_15 : decode b1_removeRequest 15 = .ok (.isub, 1) := by decide +kernel
theorem d1_removeRequest_16 : decode b1_removeRequest 16 = .ok (.aload_n 0, 1) := by decide +kernel
theorem d1_removeRequest_17 : decode b1_removeRequest 17 = .ok (.getfield 47, 3) := by decide +kernel
theorem d1_removeRequest_20 : decode b1_removeRequest 20 = .ok (.iload_n 2, 1) := by decide +kernel
theorem d1_removeRequest_21 : decode b1_removeRequest 21 = .ok (.iaload, 1) := by decide +kernel
theorem d1_removeRequest_22 : decode b1_removeRequest 22 = .ok (.aload_n 0, 1) := by decide +kernel
theorem d1_removeRequest_23 : decode b1_removeRequest 23 = .ok (.getfield 50, 3) := by decide +kernel
theorem d1_removeRequest_26 : decode b1_removeRequest 26 = .ok (.iload_n 2, 1) := by decide +kernel
theorem d1_removeRequest_27 : decode b1_removeRequest 27 = .ok (.baload, 1) := by decide +kernel
theorem d1_removeRequest_28 : decode b1_removeRequest 28 = .ok (.aload_n 0, 1) := by decide +kernel
theorem d1_removeRequest_29 : decode b1_removeRequest 29 = .ok (.getfield 53, 3) := by decide +kernel
theorem d1_removeRequest_32 : decode b1_removeRequest 32 = .ok (.iload_n 2, 1) := by decide +kernel
theorem d1_removeRequest_33 : decode b1_removeRequest 33 = .ok (.iaload, 1) := by decide +kernel
theorem d1_removeRequest_34 : decode b1_removeRequest 34 = .ok (.aload_n 0, 1) := by decide +kernel
theorem d1_removeRequest_35 : decode b1_removeRequest 35 = .ok (.getfield 56, 3) := by decide +kernel
theorem d1_removeRequest_38 : decode b1_removeRequest 38 = .ok (.iload_n 2, 1) := by decide +kernel
theorem d1_removeRequest_39 : decode b1_removeRequest 39 = .ok (.iaload, 1) := by decide +kernel
theorem d1_removeRequest_40 : decode b1_removeRequest 40 = .ok (.invokevirtual 63, 3) := by decide +kernel
theorem d1_removeRequest_43 : decode b1_removeRequest 43 = .ok (.iinc 2 1, 3) := by decide +kernel
theorem d1_removeRequest_46 : decode b1_removeRequest 46 = .ok (.goto (-42), 3) := by decide +kernel
theorem d1_removeRequest_49 : decode b1_removeRequest 49 = .ok (.aload_n 0, 1) := by decide +kernel
theorem d1_removeRequest_50 : decode b1_removeRequest 50 = .ok (.dup, 1) := by decide +kernel
theorem d1_removeRequest_51 : decode b1_removeRequest 51 = .ok (.getfield 44, 3) := by decide +kernel
theorem d1_removeRequest_54 : decode b1_removeRequest 54 = .ok (.iconst 1, 1) := by decide +kernel
theorem d1_removeRequest_55 : decode b1_removeRequest 55 = .ok (.isub, 1) := by decide +kernel
theorem d1_removeRequest_56 : decode b1_removeRequest 56 = .ok (.putfield 44, 3) := by decide +kernel
theorem d1_removeRequest_59 : decode b1_removeRequest 59 = .ok (.return_, 1) := by decide +kernel
abbrev b2_init : ByteArray := prog_4_method_1_code
def y2_init : MethodName := ⟨"ChannelSchedule$Script", "<init>", "()V"⟩
theorem w2_init : YI y2_init b2_init 1 0 := ⟨LW_i 102 (by decide +kernel) (by decide +kernel), LW_i 30 (by decide +kernel) (by decide +kernel), LW_i 103 (by decide +kernel) (by decide +kernel), by decide +kernel, by decide +kernel, rfl⟩
theorem d2_init_0 : decode b2_init 0 = .ok (.aload_n 0, 1) := by decide +kernel
theorem d2_init_1 : decode b2_init 1 = .ok (.invokespecial 3, 3) := by decide +kernel
theorem d2_init_4 : decode b2_init 4 = .ok (.aload_n 0, 1) := by decide +kernel
theorem d2_init_5 : decode b2_init 5 = .ok (.iconst 0, 1) := by decide +kernel
theorem d2_init_6 : decode b2_init 6 = .ok (.putfield 9, 3) := by decide +kernel
theorem d2_init_9 : decode b2_init 9 = .ok (.aload_n 0, 1) := by decide +kernel
theorem d2_init_10 : decode b2_init 10 = .ok (.bipush 30, 2) := by decide +kernel
theorem d2_init_12 : decode b2_init 12 = .ok (.newarray .int, 2) := by decide +kernel
theorem d2_init_14 : decode b2_init 14 = .ok (.putfield 15, 3) := by decide +kernel
theorem d2_init_17 : decode b2_init 17 = .ok (.aload_n 0, 1) := by decide +kernel
theorem d2_init_18 : decode b2_init 18 = .ok (.bipush 30, 2) := by decide +kernel
theorem d2_init_20 : decode b2_init 20 = .ok (.newarray .int, 2) := by decide +kernel
theorem d2_init_22 : decode b2_init 22 = .ok (.putfield 19, 3) := by decide +kernel
theorem d2_init_25 : decode b2_init 25 = .ok (.aload_n 0, 1) := by decide +kernel
theorem d2_init_26 : decode b2_init 26 = .ok (.bipush 30, 2) := by decide +kernel
theorem d2_init_28 : decode b2_init 28 = .ok (.newarray .boolean, 2) := by decide +kernel
theorem d2_init_30 : decode b2_init 30 = .ok (.putfield 22, 3) := by decide +kernel
theorem d2_init_33 : decode b2_init 33 = .ok (.aload_n 0, 1) := by decide +kernel
theorem d2_init_34 : decode b2_init 34 = .ok (.bipush 30, 2) := by decide +kernel
theorem d2_init_36 : decode b2_init 36 = .ok (.newarray .int, 2) := by decide +kernel
theorem d2_init_38 : decode b2_init 38 = .ok (.putfield 26, 3) := by decide +kernel
theorem d2_init_41 : decode b2_init 41 = .ok (.aload_n 0, 1) := by decide +kernel
theorem d2_init_42 : decode b2_init 42 = .ok (.bipush 30, 2) := by decide +kernel
theorem d2_init_44 : decode b2_init 44 = .ok (.newarray .int, 2) := by decide +kernel
theorem d2_init_46 : decode b2_init 46 = .ok (.putfield 29, 3) := by decide +kernel
theorem d2_init_49 : decode b2_init 49 = .ok (.return_, 1) := by decide +kernel
abbrev b3_init : ByteArray := prog_5_method_1_code
def y3_init : MethodName := ⟨"ChannelSchedule$Setup", "<init>", "()V"⟩
theorem w3_init : YI y3_init b3_init 2 0 := ⟨LW_i 129 (by decide +kernel) (by decide +kernel), LW_i 31 (by decide +kernel) (by decide +kernel), LW_i 130 (by decide +kernel) (by decide +kernel), by decide +kernel, by decide +kernel, rfl⟩
theorem d3_init_0 : decode b3_init 0 = .ok (.aload_n 0, 1) := by decide +kernel
theorem d3_init_1 : decode b3_init 1 = .ok (.invokespecial 3, 3) := by decide +kernel
theorem d3_init_4 : decode b3_init 4 = .ok (.aload_n 0, 1) := by decide +kernel
theorem d3_init_5 : decode b3_init 5 = .ok (.iconst 0, 1) := by decide +kernel
theorem d3_init_6 : decode b3_init 6 = .ok (.putfield 9, 3) := by decide +kernel
theorem d3_init_9 : decode b3_init 9 = .ok (.aload_n 0, 1) := by decide +kernel
theorem d3_init_10 : decode b3_init 10 = .ok (.iconst 0, 1) := by decide +kernel
theorem d3_init_11 : decode b3_init 11 = .ok (.putfield 15, 3) := by decide +kernel
theorem d3_init_14 : decode b3_init 14 = .ok (.aload_n 0, 1) := by decide +kernel
theorem d3_init_15 : decode b3_init 15 = .ok (.iconst 0, 1) := by decide +kernel
theorem d3_init_16 : decode b3_init 16 = .ok (.putfield 18, 3) := by decide +kernel
theorem d3_init_19 : decode b3_init 19 = .ok (.aload_n 0, 1) := by decide +kernel
theorem d3_init_20 : decode b3_init 20 = .ok (.iconst 0, 1) := by decide +kernel
theorem d3_init_21 : decode b3_init 21 = .ok (.putfield 21, 3) := by decide +kernel
theorem d3_init_24 : decode b3_init 24 = .ok (.aload_n 0, 1) := by decide +kernel
theorem d3_init_25 : decode b3_init 25 = .ok (.bipush 10, 2) := by decide +kernel
theorem d3_init_27 : decode b3_init 27 = .ok (.anewarray 24, 3) := by decide +kernel
theorem d3_init_30 : decode b3_init 30 = .ok (.putfield 26, 3) := by decide +kernel
theorem d3_init_33 : decode b3_init 33 = .ok (.iconst 0, 1) := by decide +kernel
theorem d3_init_34 : decode b3_init 34 = .ok (.istore_n 1, 1) := by decide +kernel
theorem d3_init_35 : decode b3_init 35 = .ok (.iload_n 1, 1) := by decide +kernel
theorem d3_init_36 : decode b3_init 36 = .ok (.bipush 10, 2) := by decide +kernel
theorem d3_init_38 : decode b3_init 38 = .ok (.if_icmp .ge 22, 3) := by decide +kernel
theorem d3_init_41 : decode b3_init 41 = .ok (.aload_n 0, 1) := by decide +kernel
theorem d3_init_42 : decode b3_init 42 = .ok (.getfield 26, 3) := by decide +kernel
theorem d3_init_45 : decode b3_init 45 = .ok (.iload_n 1, 1) := by decide +kernel
theorem d3_init_46 : decode b3_init 46 = .ok (.new 24, 3) := by decide +kernel
theorem d3_init_49 : decode b3_init 49 = .ok (.dup, 1) := by decide +kernel
theorem d3_init_50 : decode b3_init 50 = .ok (.invokespecial 30, 3) := by decide +kernel
theorem d3_init_53 : decode b3_init 53 = .ok (.aastore, 1) := by decide +kernel
theorem d3_init_54 : decode b3_init 54 = .ok (.iinc 1 1, 3) := by decide +kernel
theorem d3_init_57 : decode b3_init 57 = .ok (.goto (-22), 3) := by decide +kernel
theorem d3_init_60 : decode b3_init 60 = .ok (.return_, 1) := by decide +kernel
abbrev b3_shipNamed : ByteArray := prog_5_method_2_code
def y3_shipNamed : MethodName := ⟨"ChannelSchedule$Setup", "shipNamed", "([BII)I"⟩
theorem w3_shipNamed : YV y3_shipNamed b3_shipNamed 5 (some .int) 3 := ⟨LW_i 358 (by decide +kernel) (by decide +kernel), LW_i 359 (by decide +kernel) (by decide +kernel), LW_i 31 (by decide +kernel) (by decide +kernel), LW_i 360 (by decide +kernel) (by decide +kernel), by decide +kernel, by decide +kernel⟩
theorem d3_shipNamed_0 : decode b3_shipNamed 0 = .ok (.iconst 0, 1) := by decide +kernel
theorem d3_shipNamed_1 : decode b3_shipNamed 1 = .ok (.istore 4, 2) := by decide +kernel
theorem d3_shipNamed_3 : decode b3_shipNamed 3 = .ok (.iload 4, 2) := by decide +kernel
theorem d3_shipNamed_5 : decode b3_shipNamed 5 = .ok (.aload_n 0, 1) := by decide +kernel
theorem d3_shipNamed_6 : decode b3_shipNamed 6 = .ok (.getfield 21, 3) := by decide +kernel
theorem d3_shipNamed_9 : decode b3_shipNamed 9 = .ok (.if_icmp .ge 28, 3) := by decide +kernel
theorem d3_shipNamed_12 : decode b3_shipNamed 12 = .ok (.aload_n 0, 1) := by decide +kernel
theorem d3_shipNamed_13 : decode b3_shipNamed 13 = .ok (.getfield 26, 3) := by decide +kernel
theorem d3_shipNamed_16 : decode b3_shipNamed 16 = .ok (.iload 4, 2) := by decide +kernel
theorem d3_shipNamed_18 : decode b3_shipNamed 18 = .ok (.aaload, 1) := by decide +kernel
theorem d3_shipNamed_19 : decode b3_shipNamed 19 = .ok (.aload_n 1, 1) := by decide +kernel
theorem d3_shipNamed_20 : decode b3_shipNamed 20 = .ok (.iload_n 2, 1) := by decide +kernel
theorem d3_shipNamed_21 : decode b3_shipNamed 21 = .ok (.iload_n 3, 1) := by decide +kernel
theorem d3_shipNamed_22 : decode b3_shipNamed 22 = .ok (.invokevirtual 31, 3) := by decide +kernel
theorem d3_shipNamed_25 : decode b3_shipNamed 25 = .ok (.ifCond .eq 6, 3) := by decide +kernel
theorem d3_shipNamed_28 : decode b3_shipNamed 28 = .ok (.iload 4, 2) := by decide +kernel
theorem d3_shipNamed_30 : decode b3_shipNamed 30 = .ok (.ireturn, 1) := by decide +kernel
theorem d3_shipNamed_31 : decode b3_shipNamed 31 = .ok (.iinc 4 1, 3) := by decide +kernel
theorem d3_shipNamed_34 : decode b3_shipNamed 34 = .ok (.goto (-31), 3) := by decide +kernel
theorem d3_shipNamed_37 : decode b3_shipNamed 37 = .ok (.iconst (-1), 1) := by decide +kernel
theorem d3_shipNamed_38 : decode b3_shipNamed 38 = .ok (.ireturn, 1) := by decide +kernel
abbrev b4_init : ByteArray := prog_6_method_1_code
def y4_init : MethodName := ⟨"ChannelSchedule$Ship", "<init>", "()V"⟩
theorem w4_init : YI y4_init b4_init 1 0 := ⟨LW_i 136 (by decide +kernel) (by decide +kernel), LW_i 32 (by decide +kernel) (by decide +kernel), LW_i 137 (by decide +kernel) (by decide +kernel), by decide +kernel, by decide +kernel, rfl⟩
theorem d4_init_0 : decode b4_init 0 = .ok (.aload_n 0, 1) := by decide +kernel
theorem d4_init_1 : decode b4_init 1 = .ok (.invokespecial 3, 3) := by decide +kernel
theorem d4_init_4 : decode b4_init 4 = .ok (.aload_n 0, 1) := by decide +kernel
theorem d4_init_5 : decode b4_init 5 = .ok (.bipush 6, 2) := by decide +kernel
theorem d4_init_7 : decode b4_init 7 = .ok (.newarray .byte, 2) := by decide +kernel
theorem d4_init_9 : decode b4_init 9 = .ok (.putfield 9, 3) := by decide +kernel
theorem d4_init_12 : decode b4_init 12 = .ok (.aload_n 0, 1) := by decide +kernel
theorem d4_init_13 : decode b4_init 13 = .ok (.iconst 0, 1) := by decide +kernel
theorem d4_init_14 : decode b4_init 14 = .ok (.putfield 15, 3) := by decide +kernel
theorem d4_init_17 : decode b4_init 17 = .ok (.aload_n 0, 1) := by decide +kernel
theorem d4_init_18 : decode b4_init 18 = .ok (.iconst 0, 1) := by decide +kernel
theorem d4_init_19 : decode b4_init 19 = .ok (.putfield 19, 3) := by decide +kernel
theorem d4_init_22 : decode b4_init 22 = .ok (.aload_n 0, 1) := by decide +kernel
theorem d4_init_23 : decode b4_init 23 = .ok (.iconst 0, 1) := by decide +kernel
theorem d4_init_24 : decode b4_init 24 = .ok (.putfield 22, 3) := by decide +kernel
theorem d4_init_27 : decode b4_init 27 = .ok (.aload_n 0, 1) := by decide +kernel
theorem d4_init_28 : decode b4_init 28 = .ok (.iconst 0, 1) := by decide +kernel
theorem d4_init_29 : decode b4_init 29 = .ok (.putfield 25, 3) := by decide +kernel
theorem d4_init_32 : decode b4_init 32 = .ok (.return_, 1) := by decide +kernel
abbrev b4_takeName : ByteArray := prog_6_method_2_code
def y4_takeName : MethodName := ⟨"ChannelSchedule$Ship", "takeName", "([BII)V"⟩
theorem w4_takeName : YV y4_takeName b4_takeName 5 none 3 := ⟨LW_i 366 (by decide +kernel) (by decide +kernel), LW_i 367 (by decide +kernel) (by decide +kernel), LW_i 32 (by decide +kernel) (by decide +kernel), LW_i 368 (by decide +kernel) (by decide +kernel), by decide +kernel, by decide +kernel⟩
theorem d4_takeName_0 : decode b4_takeName 0 = .ok (.aload_n 0, 1) := by decide +kernel
theorem d4_takeName_1 : decode b4_takeName 1 = .ok (.iload_n 3, 1) := by decide +kernel
theorem d4_takeName_2 : decode b4_takeName 2 = .ok (.bipush 6, 2) := by decide +kernel
theorem d4_takeName_4 : decode b4_takeName 4 = .ok (.if_icmp .ge 7, 3) := by decide +kernel
theorem d4_takeName_7 : decode b4_takeName 7 = .ok (.iload_n 3, 1) := by decide +kernel
theorem d4_takeName_8 : decode b4_takeName 8 = .ok (.goto 5, 3) := by decide +kernel
theorem d4_takeName_11 : decode b4_takeName 11 = .ok (.bipush 6, 2) := by decide +kernel
theorem d4_takeName_13 : decode b4_takeName 13 = .ok (.putfield 15, 3) := by decide +kernel
theorem d4_takeName_16 : decode b4_takeName 16 = .ok (.iconst 0, 1) := by decide +kernel
theorem d4_takeName_17 : decode b4_takeName 17 = .ok (.istore 4, 2) := by decide +kernel
theorem d4_takeName_19 : decode b4_takeName 19 = .ok (.iload 4, 2) := by decide +kernel
theorem d4_takeName_21 : decode b4_takeName 21 = .ok (.aload_n 0, 1) := by decide +kernel
theorem d4_takeName_22 : decode b4_takeName 22 = .ok (.getfield 15, 3) := by decide +kernel
theorem d4_takeName_25 : decode b4_takeName 25 = .ok (.if_icmp .ge 22, 3) := by decide +kernel
theorem d4_takeName_28 : decode b4_takeName 28 = .ok (.aload_n 0, 1) := by decide +kernel
theorem d4_takeName_29 : decode b4_takeName 29 = .ok (.getfield 9, 3) := by decide +kernel
theorem d4_takeName_32 : decode b4_takeName 32 = .ok (.iload 4, 2) := by decide +kernel
theorem d4_takeName_34 : decode b4_takeName 34 = .ok (.aload_n 1, 1) := by decide +kernel
theorem d4_takeName_35 : decode b4_takeName 35 = .ok (.iload_n 2, 1) := by decide +kernel
theorem d4_takeName_36 : decode b4_takeName 36 = .ok (.iload 4, 2) := by decide +kernel
theorem d4_takeName_38 : decode b4_takeName 38 = .ok (.iadd, 1) := by decide +kernel
theorem d4_takeName_39 : decode b4_takeName 39 = .ok (.baload, 1) := by decide +kernel
theorem d4_takeName_40 : decode b4_takeName 40 = .ok (.bastore, 1) := by decide +kernel
theorem d4_takeName_41 : decode b4_takeName 41 = .ok (.iinc 4 1, 3) := by decide +kernel
theorem d4_takeName_44 : decode b4_takeName 44 = .ok (.goto (-25), 3) := by decide +kernel
theorem d4_takeName_47 : decode b4_takeName 47 = .ok (.return_, 1) := by decide +kernel
abbrev b4_hasName : ByteArray := prog_6_method_3_code
def y4_hasName : MethodName := ⟨"ChannelSchedule$Ship", "hasName", "([BII)Z"⟩
theorem w4_hasName : YV y4_hasName b4_hasName 5 (some .boolean) 3 := ⟨LW_i 362 (by decide +kernel) (by decide +kernel), LW_i 363 (by decide +kernel) (by decide +kernel), LW_i 32 (by decide +kernel) (by decide +kernel), LW_i 364 (by decide +kernel) (by decide +kernel), by decide +kernel, by decide +kernel⟩
theorem d4_hasName_0 : decode b4_hasName 0 = .ok (.iload_n 3, 1) := by decide +kernel
theorem d4_hasName_1 : decode b4_hasName 1 = .ok (.aload_n 0, 1) := by decide +kernel
theorem d4_hasName_2 : decode b4_hasName 2 = .ok (.getfield 15, 3) := by decide +kernel
theorem d4_hasName_5 : decode b4_hasName 5 = .ok (.if_icmp .eq 5, 3) := by decide +kernel
theorem d4_hasName_8 : decode b4_hasName 8 = .ok (.iconst 0, 1) := by decide +kernel
theorem d4_hasName_9 : decode b4_hasName 9 = .ok (.ireturn, 1) := by decide +kernel
theorem d4_hasName_10 : decode b4_hasName 10 = .ok (.iconst 0, 1) := by decide +kernel
theorem d4_hasName_11 : decode b4_hasName 11 = .ok (.istore 4, 2) := by decide +kernel
theorem d4_hasName_13 : decode b4_hasName 13 = .ok (.iload 4, 2) := by decide +kernel
theorem d4_hasName_15 : decode b4_hasName 15 = .ok (.aload_n 0, 1) := by decide +kernel
theorem d4_hasName_16 : decode b4_hasName 16 = .ok (.getfield 15, 3) := by decide +kernel
theorem d4_hasName_19 : decode b4_hasName 19 = .ok (.if_icmp .ge 27, 3) := by decide +kernel
theorem d4_hasName_22 : decode b4_hasName 22 = .ok (.aload_n 0, 1) := by decide +kernel
theorem d4_hasName_23 : decode b4_hasName 23 = .ok (.getfield 9, 3) := by decide +kernel
theorem d4_hasName_26 : decode b4_hasName 26 = .ok (.iload 4, 2) := by decide +kernel
theorem d4_hasName_28 : decode b4_hasName 28 = .ok (.baload, 1) := by decide +kernel
theorem d4_hasName_29 : decode b4_hasName 29 = .ok (.aload_n 1, 1) := by decide +kernel
theorem d4_hasName_30 : decode b4_hasName 30 = .ok (.iload_n 2, 1) := by decide +kernel
theorem d4_hasName_31 : decode b4_hasName 31 = .ok (.iload 4, 2) := by decide +kernel
theorem d4_hasName_33 : decode b4_hasName 33 = .ok (.iadd, 1) := by decide +kernel
theorem d4_hasName_34 : decode b4_hasName 34 = .ok (.baload, 1) := by decide +kernel
theorem d4_hasName_35 : decode b4_hasName 35 = .ok (.if_icmp .eq 5, 3) := by decide +kernel
theorem d4_hasName_38 : decode b4_hasName 38 = .ok (.iconst 0, 1) := by decide +kernel
theorem d4_hasName_39 : decode b4_hasName 39 = .ok (.ireturn, 1) := by decide +kernel
theorem d4_hasName_40 : decode b4_hasName 40 = .ok (.iinc 4 1, 3) := by decide +kernel
theorem d4_hasName_43 : decode b4_hasName 43 = .ok (.goto (-30), 3) := by decide +kernel
theorem d4_hasName_46 : decode b4_hasName 46 = .ok (.iconst 1, 1) := by decide +kernel
theorem d4_hasName_47 : decode b4_hasName 47 = .ok (.ireturn, 1) := by decide +kernel
abbrev b5_init : ByteArray := prog_1_method_1_code
def y5_init : MethodName := ⟨"ChannelSchedule", "<init>", "()V"⟩
theorem w5_init : YI y5_init b5_init 2 0 := ⟨LW_i 56 (by decide +kernel) (by decide +kernel), LW_i 28 (by decide +kernel) (by decide +kernel), LW_i 57 (by decide +kernel) (by decide +kernel), by decide +kernel, by decide +kernel, rfl⟩
theorem d5_init_0 : decode b5_init 0 = .ok (.aload_n 0, 1) := by decide +kernel
theorem d5_init_1 : decode b5_init 1 = .ok (.invokespecial 1, 3) := by decide +kernel
theorem d5_init_4 : decode b5_init 4 = .ok (.aload_n 0, 1) := by decide +kernel
theorem d5_init_5 : decode b5_init 5 = .ok (.new 7, 3) := by decide +kernel
theorem d5_init_8 : decode b5_init 8 = .ok (.dup, 1) := by decide +kernel
theorem d5_init_9 : decode b5_init 9 = .ok (.invokespecial 9, 3) := by decide +kernel
theorem d5_init_12 : decode b5_init 12 = .ok (.putfield 10, 3) := by decide +kernel
theorem d5_init_15 : decode b5_init 15 = .ok (.aload_n 0, 1) := by decide +kernel
theorem d5_init_16 : decode b5_init 16 = .ok (.new 16, 3) := by decide +kernel
theorem d5_init_19 : decode b5_init 19 = .ok (.dup, 1) := by decide +kernel
theorem d5_init_20 : decode b5_init 20 = .ok (.invokespecial 18, 3) := by decide +kernel
theorem d5_init_23 : decode b5_init 23 = .ok (.putfield 19, 3) := by decide +kernel
theorem d5_init_26 : decode b5_init 26 = .ok (.aload_n 0, 1) := by decide +kernel
theorem d5_init_27 : decode b5_init 27 = .ok (.new 23, 3) := by decide +kernel
theorem d5_init_30 : decode b5_init 30 = .ok (.dup, 1) := by decide +kernel
theorem d5_init_31 : decode b5_init 31 = .ok (.invokespecial 25, 3) := by decide +kernel
theorem d5_init_34 : decode b5_init 34 = .ok (.putfield 26, 3) := by decide +kernel
theorem d5_init_37 : decode b5_init 37 = .ok (.aload_n 0, 1) := by decide +kernel
theorem d5_init_38 : decode b5_init 38 = .ok (.new 23, 3) := by decide +kernel
theorem d5_init_41 : decode b5_init 41 = .ok (.dup, 1) := by decide +kernel
theorem d5_init_42 : decode b5_init 42 = .ok (.invokespecial 25, 3) := by decide +kernel
theorem d5_init_45 : decode b5_init 45 = .ok (.putfield 30, 3) := by decide +kernel
theorem d5_init_48 : decode b5_init 48 = .ok (.aload_n 0, 1) := by decide +kernel
theorem d5_init_49 : decode b5_init 49 = .ok (.new 33, 3) := by decide +kernel
theorem d5_init_52 : decode b5_init 52 = .ok (.dup, 1) := by decide +kernel
theorem d5_init_53 : decode b5_init 53 = .ok (.invokespecial 35, 3) := by decide +kernel
theorem d5_init_56 : decode b5_init 56 = .ok (.putfield 36, 3) := by decide +kernel
theorem d5_init_59 : decode b5_init 59 = .ok (.aload_n 0, 1) := by decide +kernel
theorem d5_init_60 : decode b5_init 60 = .ok (.new 33, 3) := by decide +kernel
theorem d5_init_63 : decode b5_init 63 = .ok (.dup, 1) := by decide +kernel
theorem d5_init_64 : decode b5_init 64 = .ok (.invokespecial 35, 3) := by decide +kernel
theorem d5_init_67 : decode b5_init 67 = .ok (.putfield 40, 3) := by decide +kernel
theorem d5_init_70 : decode b5_init 70 = .ok (.aload_n 0, 1) := by decide +kernel
theorem d5_init_71 : decode b5_init 71 = .ok (.bipush 6, 2) := by decide +kernel
theorem d5_init_73 : decode b5_init 73 = .ok (.anewarray 33, 3) := by decide +kernel
theorem d5_init_76 : decode b5_init 76 = .ok (.putfield 43, 3) := by decide +kernel
theorem d5_init_79 : decode b5_init 79 = .ok (.aload_n 0, 1) := by decide +kernel
theorem d5_init_80 : decode b5_init 80 = .ok (.iconst 0, 1) := by decide +kernel
theorem d5_init_81 : decode b5_init 81 = .ok (.putfield 47, 3) := by decide +kernel
theorem d5_init_84 : decode b5_init 84 = .ok (.aload_n 0, 1) := by decide +kernel
theorem d5_init_85 : decode b5_init 85 = .ok (.iconst 0, 1) := by decide +kernel
theorem d5_init_86 : decode b5_init 86 = .ok (.putfield 51, 3) := by decide +kernel
theorem d5_init_89 : decode b5_init 89 = .ok (.aload_n 0, 1) := by decide +kernel
theorem d5_init_90 : decode b5_init 90 = .ok (.iconst 2, 1) := by decide +kernel
theorem d5_init_91 : decode b5_init 91 = .ok (.anewarray 33, 3) := by decide +kernel
theorem d5_init_94 : decode b5_init 94 = .ok (.putfield 54, 3) := by decide +kernel
theorem d5_init_97 : decode b5_init 97 = .ok (.aload_n 0, 1) := by decide +kernel
theorem d5_init_98 : decode b5_init 98 = .ok (.iconst 2, 1) := by decide +kernel
theorem d5_init_99 : decode b5_init 99 = .ok (.newarray .boolean, 2) := by decide +kernel
theorem d5_init_101 : decode b5_init 101 = .ok (.putfield 57, 3) := by decide +kernel
theorem d5_init_104 : decode b5_init 104 = .ok (.aload_n 0, 1) := by decide +kernel
theorem d5_init_105 : decode b5_init 105 = .ok (.bipush 8, 2) := by decide +kernel
theorem d5_init_107 : decode b5_init 107 = .ok (.newarray .int, 2) := by decide +kernel
theorem d5_init_109 : decode b5_init 109 = .ok (.putfield 61, 3) := by decide +kernel
theorem d5_init_112 : decode b5_init 112 = .ok (.aload_n 0, 1) := by decide +kernel
theorem d5_init_113 : decode b5_init 113 = .ok (.sipush 320, 3) := by decide +kernel
theorem d5_init_116 : decode b5_init 116 = .ok (.newarray .byte, 2) := by decide +kernel
theorem d5_init_118 : decode b5_init 118 = .ok (.putfield 65, 3) := by decide +kernel
theorem d5_init_121 : decode b5_init 121 = .ok (.aload_n 0, 1) := by decide +kernel
theorem d5_init_122 : decode b5_init 122 = .ok (.iconst 0, 1) := by decide +kernel
theorem d5_init_123 : decode b5_init 123 = .ok (.putfield 69, 3) := by decide +kernel
theorem d5_init_126 : decode b5_init 126 = .ok (.iconst 0, 1) := by decide +kernel
theorem d5_init_127 : decode b5_init 127 = .ok (.istore_n 1, 1) := by decide +kernel
theorem d5_init_128 : decode b5_init 128 = .ok (.iload_n 1, 1) := by decide +kernel
theorem d5_init_129 : decode b5_init 129 = .ok (.bipush 6, 2) := by decide +kernel
theorem d5_init_131 : decode b5_init 131 = .ok (.if_icmp .ge 22, 3) := by decide +kernel
theorem d5_init_134 : decode b5_init 134 = .ok (.aload_n 0, 1) := by decide +kernel
theorem d5_init_135 : decode b5_init 135 = .ok (.getfield 43, 3) := by decide +kernel
theorem d5_init_138 : decode b5_init 138 = .ok (.iload_n 1, 1) := by decide +kernel
theorem d5_init_139 : decode b5_init 139 = .ok (.new 33, 3) := by decide +kernel
theorem d5_init_142 : decode b5_init 142 = .ok (.dup, 1) := by decide +kernel
theorem d5_init_143 : decode b5_init 143 = .ok (.invokespecial 35, 3) := by decide +kernel
theorem d5_init_146 : decode b5_init 146 = .ok (.aastore, 1) := by decide +kernel
theorem d5_init_147 : decode b5_init 147 = .ok (.iinc 1 1, 3) := by decide +kernel
theorem d5_init_150 : decode b5_init 150 = .ok (.goto (-22), 3) := by decide +kernel
theorem d5_init_153 : decode b5_init 153 = .ok (.iconst 0, 1) := by decide +kernel
theorem d5_init_154 : decode b5_init 154 = .ok (.istore_n 1, 1) := by decide +kernel
theorem d5_init_155 : decode b5_init 155 = .ok (.iload_n 1, 1) := by decide +kernel
theorem d5_init_156 : decode b5_init 156 = .ok (.iconst 2, 1) := by decide +kernel
theorem d5_init_157 : decode b5_init 157 = .ok (.if_icmp .ge 22, 3) := by decide +kernel
theorem d5_init_160 : decode b5_init 160 = .ok (.aload_n 0, 1) := by decide +kernel
theorem d5_init_161 : decode b5_init 161 = .ok (.getfield 54, 3) := by decide +kernel
theorem d5_init_164 : decode b5_init 164 = .ok (.iload_n 1, 1) := by decide +kernel
theorem d5_init_165 : decode b5_init 165 = .ok (.new 33, 3) := by decide +kernel
theorem d5_init_168 : decode b5_init 168 = .ok (.dup, 1) := by decide +kernel
theorem d5_init_169 : decode b5_init 169 = .ok (.invokespecial 35, 3) := by decide +kernel
theorem d5_init_172 : decode b5_init 172 = .ok (.aastore, 1) := by decide +kernel
theorem d5_init_173 : decode b5_init 173 = .ok (.iinc 1 1, 3) := by decide +kernel
theorem d5_init_176 : decode b5_init 176 = .ok (.goto (-21), 3) := by decide +kernel
theorem d5_init_179 : decode b5_init 179 = .ok (.iconst 0, 1) := by decide +kernel
theorem d5_init_180 : decode b5_init 180 = .ok (.istore_n 1, 1) := by decide +kernel
theorem d5_init_181 : decode b5_init 181 = .ok (.iload_n 1, 1) := by decide +kernel
theorem d5_init_182 : decode b5_init 182 = .ok (.ldc 72, 2) := by decide +kernel
theorem d5_init_184 : decode b5_init 184 = .ok (.invokevirtual 74, 3) := by decide +kernel
theorem d5_init_187 : decode b5_init 187 = .ok (.if_icmp .ge 22, 3) := by decide +kernel
theorem d5_init_190 : decode b5_init 190 = .ok (.aload_n 0, 1) := by decide +kernel
theorem d5_init_191 : decode b5_init 191 = .ok (.getfield 10, 3) := by decide +kernel
theorem d5_init_194 : decode b5_init 194 = .ok (.ldc 72, 2) := by decide +kernel
theorem d5_init_196 : decode b5_init 196 = .ok (.iload_n 1, 1) := by decide +kernel
theorem d5_init_197 : decode b5_init 197 = .ok (.invokevirtual 80, 3) := by decide +kernel
theorem d5_init_200 : decode b5_init 200 = .ok (.invokevirtual 84, 3) := by decide +kernel
theorem d5_init_203 : decode b5_init 203 = .ok (.iinc 1 1, 3) := by decide +kernel
theorem d5_init_206 : decode b5_init 206 = .ok (.goto (-25), 3) := by decide +kernel
theorem d5_init_209 : decode b5_init 209 = .ok (.aload_n 0, 1) := by decide +kernel
theorem d5_init_210 : decode b5_init 210 = .ok (.invokevirtual 88, 3) := by decide +kernel
theorem d5_init_213 : decode b5_init 213 = .ok (.ifCond .eq 7, 3) := by decide +kernel
theorem d5_init_216 : decode b5_init 216 = .ok (.aload_n 0, 1) := by decide +kernel
theorem d5_init_217 : decode b5_init 217 = .ok (.invokevirtual 92, 3) := by decide +kernel
theorem d5_init_220 : decode b5_init 220 = .ok (.aload_n 0, 1) := by decide +kernel
theorem d5_init_221 : decode b5_init 221 = .ok (.getfield 10, 3) := by decide +kernel
theorem d5_init_224 : decode b5_init 224 = .ok (.iconst 0, 1) := by decide +kernel
theorem d5_init_225 : decode b5_init 225 = .ok (.putfield 95, 3) := by decide +kernel
theorem d5_init_228 : decode b5_init 228 = .ok (.return_, 1) := by decide +kernel
abbrev b5_append : ByteArray := prog_1_method_2_code
def y5_append : MethodName := ⟨"ChannelSchedule", "append", "(IIIII)I"⟩
theorem w5_append : YV y5_append b5_append 6 (some .int) 5 := ⟨LW_i 821 (by decide +kernel) (by decide +kernel), LW_i 822 (by decide +kernel) (by decide +kernel), LW_i 28 (by decide +kernel) (by decide +kernel), LW_i 823 (by decide +kernel) (by decide +kernel), by decide +kernel, by decide +kernel⟩
theorem d5_append_0 : decode b5_append 0 = .ok (.aload_n 0, 1) := by decide +kernel
theorem d5_append_1 : decode b5_append 1 = .ok (.getfield 10, 3) := by decide +kernel
theorem d5_append_4 : decode b5_append 4 = .ok (.getfield 95, 3) := by decide +kernel
theorem d5_append_7 : decode b5_append 7 = .ok (.bipush 20, 2) := by decide +kernel
theorem d5_append_9 : decode b5_append 9 = .ok (.iadd, 1) := by decide +kernel
theorem d5_append_10 : decode b5_append 10 = .ok (.sipush 600, 3) := by decide +kernel
theorem d5_append_13 : decode b5_append 13 = .ok (.if_icmp .gt 7, 3) := by decide +kernel
theorem d5_append_16 : decode b5_append 16 = .ok (.iconst 1, 1) := by decide +kernel
theorem d5_append_17 : decode b5_append 17 = .ok (.goto 4, 3) := by decide +kernel
theorem d5_append_20 : decode b5_append 20 = .ok (.iconst 0, 1) := by decide +kernel
theorem d5_append_21 : decode b5_append 21 = .ok (.invokestatic 97, 3) := by decide +kernel
theorem d5_append_24 : decode b5_append 24 = .ok (.aload_n 0, 1) := by decide +kernel
theorem d5_append_25 : decode b5_append 25 = .ok (.getfield 10, 3) := by decide +kernel
theorem d5_append_28 : decode b5_append 28 = .ok (.iload_n 1, 1) := by decide +kernel
theorem d5_append_29 : decode b5_append 29 = .ok (.invokevirtual 101, 3) := by decide +kernel
theorem d5_append_32 : decode b5_append 32 = .ok (.aload_n 0, 1) := by decide +kernel
theorem d5_append_33 : decode b5_append 33 = .ok (.getfield 10, 3) := by decide +kernel
theorem d5_append_36 : decode b5_append 36 = .ok (.iload_n 2, 1) := by decide +kernel
theorem d5_append_37 : decode b5_append 37 = .ok (.invokevirtual 101, 3) := by decide +kernel
theorem d5_append_40 : decode b5_append 40 = .ok (.aload_n 0, 1) := by decide +kernel
theorem d5_append_41 : decode b5_append 41 = .ok (.getfield 10, 3) := by decide +kernel
theorem d5_append_44 : decode b5_append 44 = .ok (.iload_n 3, 1) := by decide +kernel
theorem d5_append_45 : decode b5_append 45 = .ok (.invokevirtual 101, 3) := by decide +kernel
theorem d5_append_48 : decode b5_append 48 = .ok (.aload_n 0, 1) := by decide +kernel
theorem d5_append_49 : decode b5_append 49 = .ok (.getfield 10, 3) := by decide +kernel
theorem d5_append_52 : decode b5_append 52 = .ok (.iload 4, 2) := by decide +kernel
theorem d5_append_54 : decode b5_append 54 = .ok (.invokevirtual 101, 3) := by decide +kernel
theorem d5_append_57 : decode b5_append 57 = .ok (.aload_n 0, 1) := by decide +kernel
theorem d5_append_58 : decode b5_append 58 = .ok (.getfield 10, 3) := by decide +kernel
theorem d5_append_61 : decode b5_append 61 = .ok (.iload 5, 2) := by decide +kernel
theorem d5_append_63 : decode b5_append 63 = .ok (.invokevirtual 101, 3) := by decide +kernel
theorem d5_append_66 : decode b5_append 66 = .ok (.aload_n 0, 1) := by decide +kernel
theorem d5_append_67 : decode b5_append 67 = .ok (.getfield 10, 3) := by decide +kernel
theorem d5_append_70 : decode b5_append 70 = .ok (.getfield 95, 3) := by decide +kernel
theorem d5_append_73 : decode b5_append 73 = .ok (.ireturn, 1) := by decide +kernel
abbrev b5_truncate : ByteArray := prog_1_method_3_code
def y5_truncate : MethodName := ⟨"ChannelSchedule", "truncate", "(I)I"⟩
theorem w5_truncate : YV y5_truncate b5_truncate 2 (some .int) 1 := ⟨LW_i 812 (by decide +kernel) (by decide +kernel), LW_i 813 (by decide +kernel) (by decide +kernel), LW_i 28 (by decide +kernel) (by decide +kernel), LW_i 814 (by decide +kernel) (by decide +kernel), by decide +kernel, by decide +kernel⟩
theorem d5_truncate_0 : decode b5_truncate 0 = .ok (.iload_n 1, 1) := by decide +kernel
theorem d5_truncate_1 : decode b5_truncate 1 = .ok (.iconst 0, 1) := by decide +kernel
theorem d5_truncate_2 : decode b5_truncate 2 = .ok (.aload_n 0, 1) := by decide +kernel
theorem d5_truncate_3 : decode b5_truncate 3 = .ok (.getfield 10, 3) := by decide +kernel
theorem d5_truncate_6 : decode b5_truncate 6 = .ok (.getfield 95, 3) := by decide +kernel
theorem d5_truncate_9 : decode b5_truncate 9 = .ok (.invokestatic 104, 3) := by decide +kernel
theorem d5_truncate_12 : decode b5_truncate 12 = .ok (.invokestatic 108, 3) := by decide +kernel
theorem d5_truncate_15 : decode b5_truncate 15 = .ok (.aload_n 0, 1) := by decide +kernel
theorem d5_truncate_16 : decode b5_truncate 16 = .ok (.getfield 10, 3) := by decide +kernel
theorem d5_truncate_19 : decode b5_truncate 19 = .ok (.iload_n 1, 1) := by decide +kernel
theorem d5_truncate_20 : decode b5_truncate 20 = .ok (.putfield 95, 3) := by decide +kernel
theorem d5_truncate_23 : decode b5_truncate 23 = .ok (.iload_n 1, 1) := by decide +kernel
theorem d5_truncate_24 : decode b5_truncate 24 = .ok (.ireturn, 1) := by decide +kernel
abbrev b5_load : ByteArray := prog_1_method_4_code
def y5_load : MethodName := ⟨"ChannelSchedule", "load", "()I"⟩
theorem w5_load : YV y5_load b5_load 2 (some .int) 0 := ⟨LW_i 422 (by decide +kernel) (by decide +kernel), LW_i 423 (by decide +kernel) (by decide +kernel), LW_i 28 (by decide +kernel) (by decide +kernel), LW_i 424 (by decide +kernel) (by decide +kernel), by decide +kernel, by decide +kernel⟩
theorem d5_load_0 : decode b5_load 0 = .ok (.aload_n 0, 1) := by decide +kernel
theorem d5_load_1 : decode b5_load 1 = .ok (.invokevirtual 88, 3) := by decide +kernel
theorem d5_load_4 : decode b5_load 4 = .ok (.istore_n 1, 1) := by decide +kernel
theorem d5_load_5 : decode b5_load 5 = .ok (.aload_n 0, 1) := by decide +kernel
theorem d5_load_6 : decode b5_load 6 = .ok (.getfield 10, 3) := by decide +kernel
theorem d5_load_9 : decode b5_load 9 = .ok (.iconst 0, 1) := by decide +kernel
theorem d5_load_10 : decode b5_load 10 = .ok (.putfield 95, 3) := by decide +kernel
theorem d5_load_13 : decode b5_load 13 = .ok (.iload_n 1, 1) := by decide +kernel
theorem d5_load_14 : decode b5_load 14 = .ok (.invokestatic 108, 3) := by decide +kernel
theorem d5_load_17 : decode b5_load 17 = .ok (.aload_n 0, 1) := by decide +kernel
theorem d5_load_18 : decode b5_load 18 = .ok (.invokevirtual 92, 3) := by decide +kernel
theorem d5_load_21 : decode b5_load 21 = .ok (.aload_n 0, 1) := by decide +kernel
theorem d5_load_22 : decode b5_load 22 = .ok (.getfield 26, 3) := by decide +kernel
theorem d5_load_25 : decode b5_load 25 = .ok (.getfield 111, 3) := by decide +kernel
theorem d5_load_28 : decode b5_load 28 = .ok (.ireturn, 1) := by decide +kernel
abbrev b5_shipCount : ByteArray := prog_1_method_7_code
def y5_shipCount : MethodName := ⟨"ChannelSchedule", "shipCount", "()I"⟩
theorem w5_shipCount : YV y5_shipCount b5_shipCount 1 (some .int) 0 := ⟨LW_i 1072 (by decide +kernel) (by decide +kernel), LW_i 1073 (by decide +kernel) (by decide +kernel), LW_i 28 (by decide +kernel) (by decide +kernel), LW_i 1074 (by decide +kernel) (by decide +kernel), by decide +kernel, by decide +kernel⟩
theorem d5_shipCount_0 : decode b5_shipCount 0 = .ok (.aload_n 0, 1) := by decide +kernel
theorem d5_shipCount_1 : decode b5_shipCount 1 = .ok (.getfield 26, 3) := by decide +kernel
theorem d5_shipCount_4 : decode b5_shipCount 4 = .ok (.getfield 111, 3) := by decide +kernel
theorem d5_shipCount_7 : decode b5_shipCount 7 = .ok (.ireturn, 1) := by decide +kernel
abbrev b5_headway : ByteArray := prog_1_method_8_code
def y5_headway : MethodName := ⟨"ChannelSchedule", "headway", "()I"⟩
theorem w5_headway : YV y5_headway b5_headway 1 (some .int) 0 := ⟨LW_i 771 (by decide +kernel) (by decide +kernel), LW_i 772 (by decide +kernel) (by decide +kernel), LW_i 28 (by decide +kernel) (by decide +kernel), LW_i 773 (by decide +kernel) (by decide +kernel), by decide +kernel, by decide +kernel⟩
theorem d5_headway_0 : decode b5_headway 0 = .ok (.aload_n 0, 1) := by decide +kernel
theorem d5_headway_1 : decode b5_headway 1 = .ok (.getfield 26, 3) := by decide +kernel
theorem d5_headway_4 : decode b5_headway 4 = .ok (.getfield 120, 3) := by decide +kernel
theorem d5_headway_7 : decode b5_headway 7 = .ok (.ireturn, 1) := by decide +kernel
abbrev b5_clearance : ByteArray := prog_1_method_9_code
def y5_clearance : MethodName := ⟨"ChannelSchedule", "clearance", "()I"⟩
theorem w5_clearance : YV y5_clearance b5_clearance 1 (some .int) 0 := ⟨LW_i 775 (by decide +kernel) (by decide +kernel), LW_i 776 (by decide +kernel) (by decide +kernel), LW_i 28 (by decide +kernel) (by decide +kernel), LW_i 777 (by decide +kernel) (by decide +kernel), by decide +kernel, by decide +kernel⟩
theorem d5_clearance_0 : decode b5_clearance 0 = .ok (.aload_n 0, 1) := by decide +kernel
theorem d5_clearance_1 : decode b5_clearance 1 = .ok (.getfield 26, 3) := by decide +kernel
theorem d5_clearance_4 : decode b5_clearance 4 = .ok (.getfield 123, 3) := by decide +kernel
theorem d5_clearance_7 : decode b5_clearance 7 = .ok (.ireturn, 1) := by decide +kernel
abbrev b5_minute : ByteArray := prog_1_method_11_code
def y5_minute : MethodName := ⟨"ChannelSchedule", "minute", "()I"⟩
theorem w5_minute : YV y5_minute b5_minute 1 (some .int) 0 := ⟨LW_i 492 (by decide +kernel) (by decide +kernel), LW_i 493 (by decide +kernel) (by decide +kernel), LW_i 28 (by decide +kernel) (by decide +kernel), LW_i 494 (by decide +kernel) (by decide +kernel), by decide +kernel, by decide +kernel⟩
theorem d5_minute_0 : decode b5_minute 0 = .ok (.aload_n 0, 1) := by decide +kernel
theorem d5_minute_1 : decode b5_minute 1 = .ok (.getfield 36, 3) := by decide +kernel
theorem d5_minute_4 : decode b5_minute 4 = .ok (.getfield 129, 3) := by decide +kernel
theorem d5_minute_7 : decode b5_minute 7 = .ok (.ireturn, 1) := by decide +kernel
abbrev b5_transitTime : ByteArray := prog_1_method_12_code
def y5_transitTime : MethodName := ⟨"ChannelSchedule", "transitTime", "(I)I"⟩
theorem w5_transitTime : YV y5_transitTime b5_transitTime 2 (some .int) 1 := ⟨LW_i 496 (by decide +kernel) (by decide +kernel), LW_i 497 (by decide +kernel) (by decide +kernel), LW_i 28 (by decide +kernel) (by decide +kernel), LW_i 498 (by decide +kernel) (by decide +kernel), by decide +kernel, by decide +kernel⟩
theorem d5_transitTime_0 : decode b5_transitTime 0 = .ok (.aload_n 0, 1) := by decide +kernel
theorem d5_transitTime_1 : decode b5_transitTime 1 = .ok (.iload_n 1, 1) := by decide +kernel
theorem d5_transitTime_2 : decode b5_transitTime 2 = .ok (.invokevirtual 132, 3) := by decide +kernel
theorem d5_transitTime_5 : decode b5_transitTime 5 = .ok (.invokestatic 136, 3) := by decide +kernel
theorem d5_transitTime_8 : decode b5_transitTime 8 = .ok (.aload_n 0, 1) := by decide +kernel
theorem d5_transitTime_9 : decode b5_transitTime 9 = .ok (.iload_n 1, 1) := by decide +kernel
theorem d5_transitTime_10 : decode b5_transitTime 10 = .ok (.invokevirtual 139, 3) := by decide +kernel
theorem d5_transitTime_13 : decode b5_transitTime 13 = .ok (.ireturn, 1) := by decide +kernel
abbrev b5_bookingCount : ByteArray := prog_1_method_17_code
def y5_bookingCount : MethodName := ⟨"ChannelSchedule", "bookingCount", "()I"⟩
theorem w5_bookingCount : YV y5_bookingCount b5_bookingCount 1 (some .int) 0 := ⟨LW_i 529 (by decide +kernel) (by decide +kernel), LW_i 530 (by decide +kernel) (by decide +kernel), LW_i 28 (by decide +kernel) (by decide +kernel), LW_i 531 (by decide +kernel) (by decide +kernel), by decide +kernel, by decide +kernel⟩
theorem d5_bookingCount_0 : decode b5_bookingCount 0 = .ok (.aload_n 0, 1) := by decide +kernel
theorem d5_bookingCount_1 : decode b5_bookingCount 1 = .ok (.getfield 36, 3) := by decide +kernel
theorem d5_bookingCount_4 : decode b5_bookingCount 4 = .ok (.getfield 175, 3) := by decide +kernel
theorem d5_bookingCount_7 : decode b5_bookingCount 7 = .ok (.ireturn, 1) := by decide +kernel
abbrev b5_bookedShip : ByteArray := prog_1_method_18_code
def y5_bookedShip : MethodName := ⟨"ChannelSchedule", "bookedShip", "(I)I"⟩
theorem w5_bookedShip : YV y5_bookedShip b5_bookedShip 2 (some .int) 1 := ⟨LW_i 727 (by decide +kernel) (by decide +kernel), LW_i 728 (by decide +kernel) (by decide +kernel), LW_i 28 (by decide +kernel) (by decide +kernel), LW_i 729 (by decide +kernel) (by decide +kernel), by decide +kernel, by decide +kernel⟩
theorem d5_bookedShip_0 : decode b5_bookedShip 0 = .ok (.aload_n 0, 1) := by decide +kernel
theorem d5_bookedShip_1 : decode b5_bookedShip 1 = .ok (.iload_n 1, 1) := by decide +kernel
theorem d5_bookedShip_2 : decode b5_bookedShip 2 = .ok (.invokevirtual 178, 3) := by decide +kernel
theorem d5_bookedShip_5 : decode b5_bookedShip 5 = .ok (.invokestatic 136, 3) := by decide +kernel
theorem d5_bookedShip_8 : decode b5_bookedShip 8 = .ok (.aload_n 0, 1) := by decide +kernel
theorem d5_bookedShip_9 : decode b5_bookedShip 9 = .ok (.getfield 36, 3) := by decide +kernel
theorem d5_bookedShip_12 : decode b5_bookedShip 12 = .ok (.getfield 181, 3) := by decide +kernel
theorem d5_bookedShip_15 : decode b5_bookedShip 15 = .ok (.iload_n 1, 1) := by decide +kernel
theorem d5_bookedShip_16 : decode b5_bookedShip 16 = .ok (.iaload, 1) := by decide +kernel
theorem d5_bookedShip_17 : decode b5_bookedShip 17 = .ok (.ireturn, 1) := by decide +kernel
abbrev b5_startMinute : ByteArray := prog_1_method_19_code
def y5_startMinute : MethodName := ⟨"ChannelSchedule", "startMinute", "(I)I"⟩
theorem w5_startMinute : YV y5_startMinute b5_startMinute 2 (some .int) 1 := ⟨LW_i 533 (by decide +kernel) (by decide +kernel), LW_i 534 (by decide +kernel) (by decide +kernel), LW_i 28 (by decide +kernel) (by decide +kernel), LW_i 535 (by decide +kernel) (by decide +kernel), by decide +kernel, by decide +kernel⟩
theorem d5_startMinute_0 : decode b5_startMinute 0 = .ok (.aload_n 0, 1) := by decide +kernel
theorem d5_startMinute_1 : decode b5_startMinute 1 = .ok (.iload_n 1, 1) := by decide +kernel
theorem d5_startMinute_2 : decode b5_startMinute 2 = .ok (.invokevirtual 178, 3) := by decide +kernel
theorem d5_startMinute_5 : decode b5_startMinute 5 = .ok (.invokestatic 136, 3) := by decide +kernel
theorem d5_startMinute_8 : decode b5_startMinute 8 = .ok (.aload_n 0, 1) := by decide +kernel
theorem d5_startMinute_9 : decode b5_startMinute 9 = .ok (.getfield 36, 3) := by decide +kernel
theorem d5_startMinute_12 : decode b5_startMinute 12 = .ok (.getfield 183, 3) := by decide +kernel
theorem d5_startMinute_15 : decode b5_startMinute 15 = .ok (.iload_n 1, 1) := by decide +kernel
theorem d5_startMinute_16 : decode b5_startMinute 16 = .ok (.iaload, 1) := by decide +kernel
theorem d5_startMinute_17 : decode b5_startMinute 17 = .ok (.ireturn, 1) := by decide +kernel
abbrev b5_endMinute : ByteArray := prog_1_method_20_code
def y5_endMinute : MethodName := ⟨"ChannelSchedule", "endMinute", "(I)I"⟩
theorem w5_endMinute : YV y5_endMinute b5_endMinute 2 (some .int) 1 := ⟨LW_i 736 (by decide +kernel) (by decide +kernel), LW_i 737 (by decide +kernel) (by decide +kernel), LW_i 28 (by decide +kernel) (by decide +kernel), LW_i 738 (by decide +kernel) (by decide +kernel), by decide +kernel, by decide +kernel⟩
theorem d5_endMinute_0 : decode b5_endMinute 0 = .ok (.aload_n 0, 1) := by decide +kernel
theorem d5_endMinute_1 : decode b5_endMinute 1 = .ok (.iload_n 1, 1) := by decide +kernel
theorem d5_endMinute_2 : decode b5_endMinute 2 = .ok (.invokevirtual 178, 3) := by decide +kernel
theorem d5_endMinute_5 : decode b5_endMinute 5 = .ok (.invokestatic 136, 3) := by decide +kernel
theorem d5_endMinute_8 : decode b5_endMinute 8 = .ok (.aload_n 0, 1) := by decide +kernel
theorem d5_endMinute_9 : decode b5_endMinute 9 = .ok (.getfield 36, 3) := by decide +kernel
theorem d5_endMinute_12 : decode b5_endMinute 12 = .ok (.getfield 186, 3) := by decide +kernel
theorem d5_endMinute_15 : decode b5_endMinute 15 = .ok (.iload_n 1, 1) := by decide +kernel
theorem d5_endMinute_16 : decode b5_endMinute 16 = .ok (.iaload, 1) := by decide +kernel
theorem d5_endMinute_17 : decode b5_endMinute 17 = .ok (.ireturn, 1) := by decide +kernel
abbrev b5_isInbound : ByteArray := prog_1_method_21_code
def y5_isInbound : MethodName := ⟨"ChannelSchedule", "isInbound", "(I)Z"⟩
theorem w5_isInbound : YV y5_isInbound b5_isInbound 2 (some .boolean) 1 := ⟨LW_i 731 (by decide +kernel) (by decide +kernel), LW_i 732 (by decide +kernel) (by decide +kernel), LW_i 28 (by decide +kernel) (by decide +kernel), LW_i 733 (by decide +kernel) (by decide +kernel), by decide +kernel, by decide +kernel⟩
theorem d5_isInbound_0 : decode b5_isInbound 0 = .ok (.aload_n 0, 1) := by decide +kernel
theorem d5_isInbound_1 : decode b5_isInbound 1 = .ok (.iload_n 1, 1) := by decide +kernel
theorem d5_isInbound_2 : decode b5_isInbound 2 = .ok (.invokevirtual 178, 3) := by decide +kernel
theorem d5_isInbound_5 : decode b5_isInbound 5 = .ok (.invokestatic 136, 3) := by decide +kernel
theorem d5_isInbound_8 : decode b5_isInbound 8 = .ok (.aload_n 0, 1) := by decide +kernel
theorem d5_isInbound_9 : decode b5_isInbound 9 = .ok (.getfield 36, 3) := by decide +kernel
theorem d5_isInbound_12 : decode b5_isInbound 12 = .ok (.getfield 189, 3) := by decide +kernel
theorem d5_isInbound_15 : decode b5_isInbound 15 = .ok (.iload_n 1, 1) := by decide +kernel
theorem d5_isInbound_16 : decode b5_isInbound 16 = .ok (.baload, 1) := by decide +kernel
theorem d5_isInbound_17 : decode b5_isInbound 17 = .ok (.ireturn, 1) := by decide +kernel
abbrev b5_conflictCount : ByteArray := prog_1_method_27_code
def y5_conflictCount : MethodName := ⟨"ChannelSchedule", "conflictCount", "(IZI)I"⟩
theorem w5_conflictCount : YV y5_conflictCount b5_conflictCount 7 (some .int) 3 := ⟨LW_i 541 (by decide +kernel) (by decide +kernel), LW_i 542 (by decide +kernel) (by decide +kernel), LW_i 28 (by decide +kernel) (by decide +kernel), LW_i 543 (by decide +kernel) (by decide +kernel), by decide +kernel, by decide +kernel⟩
theorem d5_conflictCount_0 : decode b5_conflictCount 0 = .ok (.aload_n 0, 1) := by decide +kernel
theorem d5_conflictCount_1 : decode b5_conflictCount 1 = .ok (.iload_n 1, 1) := by decide +kernel
theorem d5_conflictCount_2 : decode b5_conflictCount 2 = .ok (.invokevirtual 132, 3) := by decide +kernel
theorem d5_conflictCount_5 : decode b5_conflictCount 5 = .ok (.invokestatic 136, 3) := by decide +kernel
theorem d5_conflictCount_8 : decode b5_conflictCount 8 = .ok (.iload_n 3, 1) := by decide +kernel
theorem d5_conflictCount_9 : decode b5_conflictCount 9 = .ok (.iconst 0, 1) := by decide +kernel
theorem d5_conflictCount_10 : decode b5_conflictCount 10 = .ok (.sipush 999, 3) := by decide +kernel
theorem d5_conflictCount_13 : decode b5_conflictCount 13 = .ok (.invokestatic 104, 3) := by decide +kernel
theorem d5_conflictCount_16 : decode b5_conflictCount 16 = .ok (.invokestatic 108, 3) := by decide +kernel
theorem d5_conflictCount_19 : decode b5_conflictCount 19 = .ok (.aload_n 0, 1) := by decide +kernel
theorem d5_conflictCount_20 : decode b5_conflictCount 20 = .ok (.iload_n 1, 1) := by decide +kernel
theorem d5_conflictCount_21 : decode b5_conflictCount 21 = .ok (.invokevirtual 139, 3) := by decide +kernel
theorem d5_conflictCount_24 : decode b5_conflictCount 24 = .ok (.istore 4, 2) := by decide +kernel
theorem d5_conflictCount_26 : decode b5_conflictCount 26 = .ok (.iconst 0, 1) := by decide +kernel
theorem d5_conflictCount_27 : decode b5_conflictCount 27 = .ok (.istore 5, 2) := by decide +kernel
theorem d5_conflictCount_29 : decode b5_conflictCount 29 = .ok (.iconst 0, 1) := by decide +kernel
theorem d5_conflictCount_30 : decode b5_conflictCount 30 = .ok (.istore 6, 2) := by decide +kernel
theorem d5_conflictCount_32 : decode b5_conflictCount 32 = .ok (.iload 6, 2) := by decide +kernel
theorem d5_conflictCount_34 : decode b5_conflictCount 34 = .ok (.aload_n 0, 1) := by decide +kernel
theorem d5_conflictCount_35 : decode b5_conflictCount 35 = .ok (.getfield 36, 3) := by decide +kernel
theorem d5_conflictCount_38 : decode b5_conflictCount 38 = .ok (.getfield 175, 3) := by decide +kernel
theorem d5_conflictCount_41 : decode b5_conflictCount 41 = .ok (.if_icmp .ge 25, 3) := by decide +kernel
theorem d5_conflictCount_44 : decode b5_conflictCount 44 = .ok (.aload_n 0, 1) := by decide +kernel
theorem d5_conflictCount_45 : decode b5_conflictCount 45 = .ok (.iload 6, 2) := by decide +kernel
theorem d5_conflictCount_47 : decode b5_conflictCount 47 = .ok (.iload_n 2, 1) := by decide +kernel
theorem d5_conflictCount_48 : decode b5_conflictCount 48 = .ok (.iload_n 3, 1) := by decide +kernel
theorem d5_conflictCount_49 : decode b5_conflictCount 49 = .ok (.iload 4, 2) := by decide +kernel
theorem d5_conflictCount_51 : decode b5_conflictCount 51 = .ok (.invokevirtual 205, 3) := by decide +kernel
theorem d5_conflictCount_54 : decode b5_conflictCount 54 = .ok (.ifCond .eq 6, 3) := by decide +kernel
theorem d5_conflictCount_57 : decode b5_conflictCount 57 = .ok (.iinc 5 1, 3) := by decide +kernel
theorem d5_conflictCount_60 : decode b5_conflictCount 60 = .ok (.iinc 6 1, 3) := by decide +kernel
theorem d5_conflictCount_63 : decode b5_conflictCount 63 = .ok (.goto (-31), 3) := by decide +kernel
theorem d5_conflictCount_66 : decode b5_conflictCount 66 = .ok (.iload 5, 2) := by decide +kernel
theorem d5_conflictCount_68 : decode b5_conflictCount 68 = .ok (.ireturn, 1) := by decide +kernel
abbrev b5_requestCount : ByteArray := prog_1_method_36_code
def y5_requestCount : MethodName := ⟨"ChannelSchedule", "requestCount", "()I"⟩
theorem w5_requestCount : YV y5_requestCount b5_requestCount 1 (some .int) 0 := ⟨LW_i 740 (by decide +kernel) (by decide +kernel), LW_i 741 (by decide +kernel) (by decide +kernel), LW_i 28 (by decide +kernel) (by decide +kernel), LW_i 742 (by decide +kernel) (by decide +kernel), by decide +kernel, by decide +kernel⟩
theorem d5_requestCount_0 : decode b5_requestCount 0 = .ok (.aload_n 0, 1) := by decide +kernel
theorem d5_requestCount_1 : decode b5_requestCount 1 = .ok (.getfield 36, 3) := by decide +kernel
theorem d5_requestCount_4 : decode b5_requestCount 4 = .ok (.getfield 231, 3) := by decide +kernel
theorem d5_requestCount_7 : decode b5_requestCount 7 = .ok (.ireturn, 1) := by decide +kernel
abbrev b5_requestedShip : ByteArray := prog_1_method_37_code
def y5_requestedShip : MethodName := ⟨"ChannelSchedule", "requestedShip", "(I)I"⟩
theorem w5_requestedShip : YV y5_requestedShip b5_requestedShip 2 (some .int) 1 := ⟨LW_i 744 (by decide +kernel) (by decide +kernel), LW_i 745 (by decide +kernel) (by decide +kernel), LW_i 28 (by decide +kernel) (by decide +kernel), LW_i 746 (by decide +kernel) (by decide +kernel), by decide +kernel, by decide +kernel⟩
theorem d5_requestedShip_0 : decode b5_requestedShip 0 = .ok (.aload_n 0, 1) := by decide +kernel
theorem d5_requestedShip_1 : decode b5_requestedShip 1 = .ok (.iload_n 1, 1) := by decide +kernel
theorem d5_requestedShip_2 : decode b5_requestedShip 2 = .ok (.invokevirtual 234, 3) := by decide +kernel
theorem d5_requestedShip_5 : decode b5_requestedShip 5 = .ok (.invokestatic 136, 3) := by decide +kernel
theorem d5_requestedShip_8 : decode b5_requestedShip 8 = .ok (.aload_n 0, 1) := by decide +kernel
theorem d5_requestedShip_9 : decode b5_requestedShip 9 = .ok (.getfield 36, 3) := by decide +kernel
theorem d5_requestedShip_12 : decode b5_requestedShip 12 = .ok (.getfield 237, 3) := by decide +kernel
theorem d5_requestedShip_15 : decode b5_requestedShip 15 = .ok (.iload_n 1, 1) := by decide +kernel
theorem d5_requestedShip_16 : decode b5_requestedShip 16 = .ok (.iaload, 1) := by decide +kernel
theorem d5_requestedShip_17 : decode b5_requestedShip 17 = .ok (.ireturn, 1) := by decide +kernel
abbrev b5_isRequestInbound : ByteArray := prog_1_method_38_code
def y5_isRequestInbound : MethodName := ⟨"ChannelSchedule", "isRequestInbound", "(I)Z"⟩
theorem w5_isRequestInbound : YV y5_isRequestInbound b5_isRequestInbound 2 (some .boolean) 1 := ⟨LW_i 752 (by decide +kernel) (by decide +kernel), LW_i 753 (by decide +kernel) (by decide +kernel), LW_i 28 (by decide +kernel) (by decide +kernel), LW_i 754 (by decide +kernel) (by decide +kernel), by decide +kernel, by decide +kernel⟩
theorem d5_isRequestInbound_0 : decode b5_isRequestInbound 0 = .ok (.aload_n 0, 1) := by decide +kernel
theorem d5_isRequestInbound_1 : decode b5_isRequestInbound 1 = .ok (.iload_n 1, 1) := by decide +kernel
theorem d5_isRequestInbound_2 : decode b5_isRequestInbound 2 = .ok (.invokevirtual 234, 3) := by decide +kernel
theorem d5_isRequestInbound_5 : decode b5_isRequestInbound 5 = .ok (.invokestatic 136, 3) := by decide +kernel
theorem d5_isRequestInbound_8 : decode b5_isRequestInbound 8 = .ok (.aload_n 0, 1) := by decide +kernel
theorem d5_isRequestInbound_9 : decode b5_isRequestInbound 9 = .ok (.getfield 36, 3) := by decide +kernel
theorem d5_isRequestInbound_12 : decode b5_isRequestInbound 12 = .ok (.getfield 240, 3) := by decide +kernel
theorem d5_isRequestInbound_15 : decode b5_isRequestInbound 15 = .ok (.iload_n 1, 1) := by decide +kernel
theorem d5_isRequestInbound_16 : decode b5_isRequestInbound 16 = .ok (.baload, 1) := by decide +kernel
theorem d5_isRequestInbound_17 : decode b5_isRequestInbound 17 = .ok (.ireturn, 1) := by decide +kernel
abbrev b5_earliestRequested : ByteArray := prog_1_method_39_code
def y5_earliestRequested : MethodName := ⟨"ChannelSchedule", "earliestRequested", "(I)I"⟩
theorem w5_earliestRequested : YV y5_earliestRequested b5_earliestRequested 2 (some .int) 1 := ⟨LW_i 756 (by decide +kernel) (by decide +kernel), LW_i 757 (by decide +kernel) (by decide +kernel), LW_i 28 (by decide +kernel) (by decide +kernel), LW_i 758 (by decide +kernel) (by decide +kernel), by decide +kernel, by decide +kernel⟩
theorem d5_earliestRequested_0 : decode b5_earliestRequested 0 = .ok (.aload_n 0, 1) := by decide +kernel
theorem d5_earliestRequested_1 : decode b5_earliestRequested 1 = .ok (.iload_n 1, 1) := by decide +kernel
theorem d5_earliestRequested_2 : decode b5_earliestRequested 2 = .ok (.invokevirtual 234, 3) := by decide +kernel
theorem d5_earliestRequested_5 : decode b5_earliestRequested 5 = .ok (.invokestatic 136, 3) := by decide +kernel
theorem d5_earliestRequested_8 : decode b5_earliestRequested 8 = .ok (.aload_n 0, 1) := by decide +kernel
theorem d5_earliestRequested_9 : decode b5_earliestRequested 9 = .ok (.getfield 36, 3) := by decide +kernel
theorem d5_earliestRequested_12 : decode b5_earliestRequested 12 = .ok (.getfield 243, 3) := by decide +kernel
theorem d5_earliestRequested_15 : decode b5_earliestRequested 15 = .ok (.iload_n 1, 1) := by decide +kernel
theorem d5_earliestRequested_16 : decode b5_earliestRequested 16 = .ok (.iaload, 1) := by decide +kernel
theorem d5_earliestRequested_17 : decode b5_earliestRequested 17 = .ok (.ireturn, 1) := by decide +kernel
abbrev b5_latestRequested : ByteArray := prog_1_method_40_code
def y5_latestRequested : MethodName := ⟨"ChannelSchedule", "latestRequested", "(I)I"⟩
theorem w5_latestRequested : YV y5_latestRequested b5_latestRequested 2 (some .int) 1 := ⟨LW_i 760 (by decide +kernel) (by decide +kernel), LW_i 761 (by decide +kernel) (by decide +kernel), LW_i 28 (by decide +kernel) (by decide +kernel), LW_i 762 (by decide +kernel) (by decide +kernel), by decide +kernel, by decide +kernel⟩
theorem d5_latestRequested_0 : decode b5_latestRequested 0 = .ok (.aload_n 0, 1) := by decide +kernel
theorem d5_latestRequested_1 : decode b5_latestRequested 1 = .ok (.iload_n 1, 1) := by decide +kernel
theorem d5_latestRequested_2 : decode b5_latestRequested 2 = .ok (.invokevirtual 234, 3) := by decide +kernel
theorem d5_latestRequested_5 : decode b5_latestRequested 5 = .ok (.invokestatic 136, 3) := by decide +kernel
theorem d5_latestRequested_8 : decode b5_latestRequested 8 = .ok (.aload_n 0, 1) := by decide +kernel
theorem d5_latestRequested_9 : decode b5_latestRequested 9 = .ok (.getfield 36, 3) := by decide +kernel
theorem d5_latestRequested_12 : decode b5_latestRequested 12 = .ok (.getfield 246, 3) := by decide +kernel
theorem d5_latestRequested_15 : decode b5_latestRequested 15 = .ok (.iload_n 1, 1) := by decide +kernel
theorem d5_latestRequested_16 : decode b5_latestRequested 16 = .ok (.iaload, 1) := by decide +kernel
theorem d5_latestRequested_17 : decode b5_latestRequested 17 = .ok (.ireturn, 1) := by decide +kernel
abbrev b5_requestsServed : ByteArray := prog_1_method_49_code
def y5_requestsServed : MethodName := ⟨"ChannelSchedule", "requestsServed", "()I"⟩
theorem w5_requestsServed : YV y5_requestsServed b5_requestsServed 1 (some .int) 0 := ⟨LW_i 723 (by decide +kernel) (by decide +kernel), LW_i 724 (by decide +kernel) (by decide +kernel), LW_i 28 (by decide +kernel) (by decide +kernel), LW_i 725 (by decide +kernel) (by decide +kernel), by decide +kernel, by decide +kernel⟩
theorem d5_requestsServed_0 : decode b5_requestsServed 0 = .ok (.aload_n 0, 1) := by decide +kernel
theorem d5_requestsServed_1 : decode b5_requestsServed 1 = .ok (.getfield 36, 3) := by decide +kernel
theorem d5_requestsServed_4 : decode b5_requestsServed 4 = .ok (.getfield 274, 3) := by decide +kernel
theorem d5_requestsServed_7 : decode b5_requestsServed 7 = .ok (.ireturn, 1) := by decide +kernel
abbrev b5_inconsistencies : ByteArray := prog_1_method_52_code
def y5_inconsistencies : MethodName := ⟨"ChannelSchedule", "inconsistencies", "()I"⟩
theorem w5_inconsistencies : YV y5_inconsistencies b5_inconsistencies 5 (some .int) 0 := ⟨LW_i 560 (by decide +kernel) (by decide +kernel), LW_i 561 (by decide +kernel) (by decide +kernel), LW_i 28 (by decide +kernel) (by decide +kernel), LW_i 562 (by decide +kernel) (by decide +kernel), by decide +kernel, by decide +kernel⟩
theorem d5_inconsistencies_0 : decode b5_inconsistencies 0 = .ok (.aload_n 0, 1) := by decide +kernel
theorem d5_inconsistencies_1 : decode b5_inconsistencies 1 = .ok (.getfield 36, 3) := by decide +kernel
theorem d5_inconsistencies_4 : decode b5_inconsistencies 4 = .ok (.getfield 268, 3) := by decide +kernel
theorem d5_inconsistencies_7 : decode b5_inconsistencies 7 = .ok (.aload_n 0, 1) := by decide +kernel
theorem d5_inconsistencies_8 : decode b5_inconsistencies 8 = .ok (.getfield 36, 3) := by decide +kernel
theorem d5_inconsistencies_11 : decode b5_inconsistencies 11 = .ok (.getfield 271, 3) := by decide +kernel
theorem d5_inconsistencies_14 : decode b5_inconsistencies 14 = .ok (.isub, 1) := by decide +kernel
theorem d5_inconsistencies_15 : decode b5_inconsistencies 15 = .ok (.aload_n 0, 1) := by decide +kernel
theorem d5_inconsistencies_16 : decode b5_inconsistencies 16 = .ok (.getfield 36, 3) := by decide +kernel
theorem d5_inconsistencies_19 : decode b5_inconsistencies 19 = .ok (.getfield 175, 3) := by decide +kernel
theorem d5_inconsistencies_22 : decode b5_inconsistencies 22 = .ok (.isub, 1) := by decide +kernel
theorem d5_inconsistencies_23 : decode b5_inconsistencies 23 = .ok (.istore_n 1, 1) := by decide +kernel
theorem d5_inconsistencies_24 : decode b5_inconsistencies 24 = .ok (.iconst 0, 1) := by decide +kernel
theorem d5_inconsistencies_25 : decode b5_inconsistencies 25 = .ok (.istore_n 2, 1) := by decide +kernel
theorem d5_inconsistencies_26 : decode b5_inconsistencies 26 = .ok (.iload_n 2, 1) := by decide +kernel
theorem d5_inconsistencies_27 : decode b5_inconsistencies 27 = .ok (.aload_n 0, 1) := by decide +kernel
theorem d5_inconsistencies_28 : decode b5_inconsistencies 28 = .ok (.getfield 36, 3) := by decide +kernel
theorem d5_inconsistencies_31 : decode b5_inconsistencies 31 = .ok (.getfield 175, 3) := by decide +kernel
theorem d5_inconsistencies_34 : decode b5_inconsistencies 34 = .ok (.if_icmp .ge 75, 3) := by decide +kernel
theorem d5_inconsistencies_37 : decode b5_inconsistencies 37 = .ok (.aload_n 0, 1) := by decide +kernel
theorem d5_inconsistencies_38 : decode b5_inconsistencies 38 = .ok (.getfield 36, 3) := by decide +kernel
theorem d5_inconsistencies_41 : decode b5_inconsistencies 41 = .ok (.getfield 186, 3) := by decide +kernel
theorem d5_inconsistencies_44 : decode b5_inconsistencies 44 = .ok (.iload_n 2, 1) := by decide +kernel
theorem d5_inconsistencies_45 : decode b5_inconsistencies 45 = .ok (.iaload, 1) := by decide +kernel
theorem d5_inconsistencies_46 : decode b5_inconsistencies 46 = .ok (.aload_n 0, 1) := by decide +kernel
theorem d5_inconsistencies_47 : decode b5_inconsistencies 47 = .ok (.getfield 36, 3) := by decide +kernel
theorem d5_inconsistencies_50 : decode b5_inconsistencies 50 = .ok (.getfield 183, 3) := by decide +kernel
theorem d5_inconsistencies_53 : decode b5_inconsistencies 53 = .ok (.iload_n 2, 1) := by decide +kernel
theorem d5_inconsistencies_54 : decode b5_inconsistencies 54 = .ok (.iaload, 1) := by decide +kernel
theorem d5_inconsistencies_55 : decode b5_inconsistencies 55 = .ok (.isub, 1) := by decide +kernel
theorem d5_inconsistencies_56 : decode b5_inconsistencies 56 = .ok (.istore_n 3, 1) := by decide +kernel
theorem d5_inconsistencies_57 : decode b5_inconsistencies 57 = .ok (.iconst 0, 1) := by decide +kernel
theorem d5_inconsistencies_58 : decode b5_inconsistencies 58 = .ok (.istore 4, 2) := by decide +kernel
theorem d5_inconsistencies_60 : decode b5_inconsistencies 60 = .ok (.iload 4, 2) := by decide +kernel
theorem d5_inconsistencies_62 : decode b5_inconsistencies 62 = .ok (.iload_n 2, 1) := by decide +kernel
theorem d5_inconsistencies_63 : decode b5_inconsistencies 63 = .ok (.if_icmp .ge 40, 3) := by decide +kernel
theorem d5_inconsistencies_66 : decode b5_inconsistencies 66 = .ok (.aload_n 0, 1) := by decide +kernel
theorem d5_inconsistencies_67 : decode b5_inconsistencies 67 = .ok (.iload 4, 2) := by decide +kernel
theorem d5_inconsistencies_69 : decode b5_inconsistencies 69 = .ok (.aload_n 0, 1) := by decide +kernel
theorem d5_inconsistencies_70 : decode b5_inconsistencies 70 = .ok (.getfield 36, 3) := by decide +kernel
theorem d5_inconsistencies_73 : decode b5_inconsistencies 73 = .ok (.getfield 189, 3) := by decide +kernel
theorem d5_inconsistencies_76 : decode b5_inconsistencies 76 = .ok (.iload_n 2, 1) := by decide +kernel
theorem d5_inconsistencies_77 : decode b5_inconsistencies 77 = .ok (.baload, 1) := by decide +kernel
theorem d5_inconsistencies_78 : decode b5_inconsistencies 78 = .ok (.aload_n 0, 1) := by decide +kernel
theorem d5_inconsistencies_79 : decode b5_inconsistencies 79 = .ok (.getfield 36, 3) := by decide +kernel
theorem d5_inconsistencies_82 : decode b5_inconsistencies 82 = .ok (.getfield 183, 3) := by decide +kernel
theorem d5_inconsistencies_85 : decode b5_inconsistencies 85 = .ok (.iload_n 2, 1) := by decide +kernel
theorem d5_inconsistencies_86 : decode b5_inconsistencies 86 = .ok (.iaload, 1) := by decide +kernel
theorem d5_inconsistencies_87 : decode b5_inconsistencies 87 = .ok (.iload_n 3, 1) := by decide +kernel
theorem d5_inconsistencies_88 : decode b5_inconsistencies 88 = .ok (.invokevirtual 205, 3) := by decide +kernel
theorem d5_inconsistencies_91 : decode b5_inconsistencies 91 = .ok (.ifCond .eq 6, 3) := by decide +kernel
theorem d5_inconsistencies_94 : decode b5_inconsistencies 94 = .ok (.iinc 1 1, 3) := by decide +kernel
theorem d5_inconsistencies_97 : decode b5_inconsistencies 97 = .ok (.iinc 4 1, 3) := by decide +kernel
theorem d5_inconsistencies_100 : decode b5_inconsistencies 100 = .ok (.goto (-40), 3) := by decide +kernel
theorem d5_inconsistencies_103 : decode b5_inconsistencies 103 = .ok (.iinc 2 1, 3) := by decide +kernel
theorem d5_inconsistencies_106 : decode b5_inconsistencies 106 = .ok (.goto (-80), 3) := by decide +kernel
theorem d5_inconsistencies_109 : decode b5_inconsistencies 109 = .ok (.iload_n 1, 1) := by decide +kernel
theorem d5_inconsistencies_110 : decode b5_inconsistencies 110 = .ok (.ireturn, 1) := by decide +kernel
abbrev b5_book : ByteArray := prog_1_method_53_code
def y5_book : MethodName := ⟨"ChannelSchedule", "book", "(IZI)I"⟩
theorem w5_book : YV y5_book b5_book 4 (some .int) 3 := ⟨LW_i 564 (by decide +kernel) (by decide +kernel), LW_i 565 (by decide +kernel) (by decide +kernel), LW_i 28 (by decide +kernel) (by decide +kernel), LW_i 566 (by decide +kernel) (by decide +kernel), by decide +kernel, by decide +kernel⟩
theorem d5_book_0 : decode b5_book 0 = .ok (.aload_n 0, 1) := by decide +kernel
theorem d5_book_1 : decode b5_book 1 = .ok (.iload_n 1, 1) := by decide +kernel
theorem d5_book_2 : decode b5_book 2 = .ok (.iload_n 2, 1) := by decide +kernel
theorem d5_book_3 : decode b5_book 3 = .ok (.iload_n 3, 1) := by decide +kernel
theorem d5_book_4 : decode b5_book 4 = .ok (.invokevirtual 277, 3) := by decide +kernel
theorem d5_book_7 : decode b5_book 7 = .ok (.invokestatic 281, 3) := by decide +kernel
theorem d5_book_10 : decode b5_book 10 = .ok (.aload_n 0, 1) := by decide +kernel
theorem d5_book_11 : decode b5_book 11 = .ok (.invokevirtual 284, 3) := by decide +kernel
theorem d5_book_14 : decode b5_book 14 = .ok (.aload_n 0, 1) := by decide +kernel
theorem d5_book_15 : decode b5_book 15 = .ok (.iload_n 1, 1) := by decide +kernel
theorem d5_book_16 : decode b5_book 16 = .ok (.iload_n 2, 1) := by decide +kernel
theorem d5_book_17 : decode b5_book 17 = .ok (.iload_n 3, 1) := by decide +kernel
theorem d5_book_18 : decode b5_book 18 = .ok (.invokevirtual 287, 3) := by decide +kernel
theorem d5_book_21 : decode b5_book 21 = .ok (.ireturn, 1) := by decide +kernel
abbrev b5_request : ByteArray := prog_1_method_54_code
def y5_request : MethodName := ⟨"ChannelSchedule", "request", "(IZII)I"⟩
theorem w5_request : YV y5_request b5_request 5 (some .int) 4 := ⟨LW_i 621 (by decide +kernel) (by decide +kernel), LW_i 622 (by decide +kernel) (by decide +kernel), LW_i 28 (by decide +kernel) (by decide +kernel), LW_i 623 (by decide +kernel) (by decide +kernel), by decide +kernel, by decide +kernel⟩
theorem d5_request_0 : decode b5_request 0 = .ok (.aload_n 0, 1) := by decide +kernel
theorem d5_request_1 : decode b5_request 1 = .ok (.iload_n 1, 1) := by decide +kernel
theorem d5_request_2 : decode b5_request 2 = .ok (.iload_n 2, 1) := by decide +kernel
theorem d5_request_3 : decode b5_request 3 = .ok (.iload_n 3, 1) := by decide +kernel
theorem d5_request_4 : decode b5_request 4 = .ok (.iload 4, 2) := by decide +kernel
theorem d5_request_6 : decode b5_request 6 = .ok (.invokevirtual 290, 3) := by decide +kernel
theorem d5_request_9 : decode b5_request 9 = .ok (.invokestatic 281, 3) := by decide +kernel
theorem d5_request_12 : decode b5_request 12 = .ok (.aload_n 0, 1) := by decide +kernel
theorem d5_request_13 : decode b5_request 13 = .ok (.invokevirtual 284, 3) := by decide +kernel
theorem d5_request_16 : decode b5_request 16 = .ok (.aload_n 0, 1) := by decide +kernel
theorem d5_request_17 : decode b5_request 17 = .ok (.iload_n 1, 1) := by decide +kernel
theorem d5_request_18 : decode b5_request 18 = .ok (.iload_n 2, 1) := by decide +kernel
theorem d5_request_19 : decode b5_request 19 = .ok (.iload_n 3, 1) := by decide +kernel
theorem d5_request_20 : decode b5_request 20 = .ok (.iload 4, 2) := by decide +kernel
theorem d5_request_22 : decode b5_request 22 = .ok (.invokevirtual 294, 3) := by decide +kernel
theorem d5_request_25 : decode b5_request 25 = .ok (.ireturn, 1) := by decide +kernel
abbrev b5_cancel : ByteArray := prog_1_method_55_code
def y5_cancel : MethodName := ⟨"ChannelSchedule", "cancel", "(I)I"⟩
theorem w5_cancel : YV y5_cancel b5_cancel 2 (some .int) 1 := ⟨LW_i 645 (by decide +kernel) (by decide +kernel), LW_i 646 (by decide +kernel) (by decide +kernel), LW_i 28 (by decide +kernel) (by decide +kernel), LW_i 647 (by decide +kernel) (by decide +kernel), by decide +kernel, by decide +kernel⟩
theorem d5_cancel_0 : decode b5_cancel 0 = .ok (.aload_n 0, 1) := by decide +kernel
theorem d5_cancel_1 : decode b5_cancel 1 = .ok (.iload_n 1, 1) := by decide +kernel
theorem d5_cancel_2 : decode b5_cancel 2 = .ok (.invokevirtual 297, 3) := by decide +kernel
theorem d5_cancel_5 : decode b5_cancel 5 = .ok (.invokestatic 281, 3) := by decide +kernel
theorem d5_cancel_8 : decode b5_cancel 8 = .ok (.aload_n 0, 1) := by decide +kernel
theorem d5_cancel_9 : decode b5_cancel 9 = .ok (.invokevirtual 284, 3) := by decide +kernel
theorem d5_cancel_12 : decode b5_cancel 12 = .ok (.aload_n 0, 1) := by decide +kernel
theorem d5_cancel_13 : decode b5_cancel 13 = .ok (.iload_n 1, 1) := by decide +kernel
theorem d5_cancel_14 : decode b5_cancel 14 = .ok (.invokevirtual 265, 3) := by decide +kernel
theorem d5_cancel_17 : decode b5_cancel 17 = .ok (.ireturn, 1) := by decide +kernel
abbrev b5_withdraw : ByteArray := prog_1_method_57_code
def y5_withdraw : MethodName := ⟨"ChannelSchedule", "withdraw", "(I)I"⟩
theorem w5_withdraw : YV y5_withdraw b5_withdraw 3 (some .int) 1 := ⟨LW_i 1078 (by decide +kernel) (by decide +kernel), LW_i 1079 (by decide +kernel) (by decide +kernel), LW_i 28 (by decide +kernel) (by decide +kernel), LW_i 1080 (by decide +kernel) (by decide +kernel), by decide +kernel, by decide +kernel⟩
theorem d5_withdraw_0 : decode b5_withdraw 0 = .ok (.aload_n 0, 1) := by decide +kernel
theorem d5_withdraw_1 : decode b5_withdraw 1 = .ok (.iload_n 1, 1) := by decide +kernel
theorem d5_withdraw_2 : decode b5_withdraw 2 = .ok (.invokevirtual 234, 3) := by decide +kernel
theorem d5_withdraw_5 : decode b5_withdraw 5 = .ok (.invokestatic 136, 3) := by decide +kernel
theorem d5_withdraw_8 : decode b5_withdraw 8 = .ok (.aload_n 0, 1) := by decide +kernel
theorem d5_withdraw_9 : decode b5_withdraw 9 = .ok (.invokevirtual 284, 3) := by decide +kernel
theorem d5_withdraw_12 : decode b5_withdraw 12 = .ok (.aload_n 0, 1) := by decide +kernel
theorem d5_withdraw_13 : decode b5_withdraw 13 = .ok (.getfield 36, 3) := by decide +kernel
theorem d5_withdraw_16 : decode b5_withdraw 16 = .ok (.getfield 237, 3) := by decide +kernel
theorem d5_withdraw_19 : decode b5_withdraw 19 = .ok (.iload_n 1, 1) := by decide +kernel
theorem d5_withdraw_20 : decode b5_withdraw 20 = .ok (.iaload, 1) := by decide +kernel
theorem d5_withdraw_21 : decode b5_withdraw 21 = .ok (.istore_n 2, 1) := by decide +kernel
theorem d5_withdraw_22 : decode b5_withdraw 22 = .ok (.aload_n 0, 1) := by decide +kernel
theorem d5_withdraw_23 : decode b5_withdraw 23 = .ok (.getfield 36, 3) := by decide +kernel
theorem d5_withdraw_26 : decode b5_withdraw 26 = .ok (.iload_n 1, 1) := by decide +kernel
theorem d5_withdraw_27 : decode b5_withdraw 27 = .ok (.invokevirtual 306, 3) := by decide +kernel
theorem d5_withdraw_30 : decode b5_withdraw 30 = .ok (.iload_n 2, 1) := by decide +kernel
theorem d5_withdraw_31 : decode b5_withdraw 31 = .ok (.ireturn, 1) := by decide +kernel
abbrev b5_setThickness : ByteArray := prog_1_method_58_code
def y5_setThickness : MethodName := ⟨"ChannelSchedule", "setThickness", "(I)I"⟩
theorem w5_setThickness : YV y5_setThickness b5_setThickness 2 (some .int) 1 := ⟨LW_i 1082 (by decide +kernel) (by decide +kernel), LW_i 1083 (by decide +kernel) (by decide +kernel), LW_i 28 (by decide +kernel) (by decide +kernel), LW_i 1084 (by decide +kernel) (by decide +kernel), by decide +kernel, by decide +kernel⟩
theorem d5_setThickness_0 : decode b5_setThickness 0 = .ok (.iload_n 1, 1) := by decide +kernel
theorem d5_setThickness_1 : decode b5_setThickness 1 = .ok (.iconst 0, 1) := by decide +kernel
theorem d5_setThickness_2 : decode b5_setThickness 2 = .ok (.bipush 9, 2) := by decide +kernel
theorem d5_setThickness_4 : decode b5_setThickness 4 = .ok (.invokestatic 104, 3) := by decide +kernel
theorem d5_setThickness_7 : decode b5_setThickness 7 = .ok (.invokestatic 108, 3) := by decide +kernel
theorem d5_setThickness_10 : decode b5_setThickness 10 = .ok (.aload_n 0, 1) := by decide +kernel
theorem d5_setThickness_11 : decode b5_setThickness 11 = .ok (.invokevirtual 284, 3) := by decide +kernel
theorem d5_setThickness_14 : decode b5_setThickness 14 = .ok (.aload_n 0, 1) := by decide +kernel
theorem d5_setThickness_15 : decode b5_setThickness 15 = .ok (.iload_n 1, 1) := by decide +kernel
theorem d5_setThickness_16 : decode b5_setThickness 16 = .ok (.invokevirtual 309, 3) := by decide +kernel
theorem d5_setThickness_19 : decode b5_setThickness 19 = .ok (.ireturn, 1) := by decide +kernel
abbrev b5_advance : ByteArray := prog_1_method_59_code
def y5_advance : MethodName := ⟨"ChannelSchedule", "advance", "(I)I"⟩
theorem w5_advance : YV y5_advance b5_advance 2 (some .int) 1 := ⟨LW_i 1090 (by decide +kernel) (by decide +kernel), LW_i 1091 (by decide +kernel) (by decide +kernel), LW_i 28 (by decide +kernel) (by decide +kernel), LW_i 1092 (by decide +kernel) (by decide +kernel), by decide +kernel, by decide +kernel⟩
theorem d5_advance_0 : decode b5_advance 0 = .ok (.aload_n 0, 1) := by decide +kernel
theorem d5_advance_1 : decode b5_advance 1 = .ok (.iload_n 1, 1) := by decide +kernel
theorem d5_advance_2 : decode b5_advance 2 = .ok (.invokevirtual 312, 3) := by decide +kernel
theorem d5_advance_5 : decode b5_advance 5 = .ok (.invokestatic 281, 3) := by decide +kernel
theorem d5_advance_8 : decode b5_advance 8 = .ok (.aload_n 0, 1) := by decide +kernel
theorem d5_advance_9 : decode b5_advance 9 = .ok (.invokevirtual 284, 3) := by decide +kernel
theorem d5_advance_12 : decode b5_advance 12 = .ok (.aload_n 0, 1) := by decide +kernel
theorem d5_advance_13 : decode b5_advance 13 = .ok (.iload_n 1, 1) := by decide +kernel
theorem d5_advance_14 : decode b5_advance 14 = .ok (.invokevirtual 315, 3) := by decide +kernel
theorem d5_advance_17 : decode b5_advance 17 = .ok (.ireturn, 1) := by decide +kernel
abbrev b5_requireIndex : ByteArray := prog_1_method_66_code
def y5_requireIndex : MethodName := ⟨"ChannelSchedule", "requireIndex", "(Z)V"⟩
theorem w5_requireIndex : YS y5_requireIndex b5_requireIndex 1 none 1 := ⟨LW_i 507 (by decide +kernel) (by decide +kernel), LW_i 28 (by decide +kernel) (by decide +kernel), LW_i 508 (by decide +kernel) (by decide +kernel), by decide +kernel, by decide +kernel⟩
theorem d5_requireIndex_0 : decode b5_requireIndex 0 = .ok (.iload_n 0, 1) := by decide +kernel
theorem d5_requireIndex_1 : decode b5_requireIndex 1 = .ok (.ifCond .ne 11, 3) := by decide +kernel
theorem d5_requireIndex_4 : decode b5_requireIndex 4 = .ok (.new 336, 3) := by decide +kernel
theorem d5_requireIndex_7 : decode b5_requireIndex 7 = .ok (.dup, 1) := by decide +kernel
theorem d5_requireIndex_8 : decode b5_requireIndex 8 = .ok (.invokespecial 338, 3) := by decide +kernel
theorem d5_requireIndex_11 : decode b5_requireIndex 11 = .ok (.athrow, 1) := by decide +kernel
theorem d5_requireIndex_12 : decode b5_requireIndex 12 = .ok (.return_, 1) := by decide +kernel
abbrev b5_requireArgument : ByteArray := prog_1_method_67_code
def y5_requireArgument : MethodName := ⟨"ChannelSchedule", "requireArgument", "(Z)V"⟩
theorem w5_requireArgument : YS y5_requireArgument b5_requireArgument 1 none 1 := ⟨LW_i 426 (by decide +kernel) (by decide +kernel), LW_i 28 (by decide +kernel) (by decide +kernel), LW_i 427 (by decide +kernel) (by decide +kernel), by decide +kernel, by decide +kernel⟩
theorem d5_requireArgument_0 : decode b5_requireArgument 0 = .ok (.iload_n 0, 1) := by decide +kernel
theorem d5_requireArgument_1 : decode b5_requireArgument 1 = .ok (.ifCond .ne 11, 3) := by decide +kernel
theorem d5_requireArgument_4 : decode b5_requireArgument 4 = .ok (.new 339, 3) := by decide +kernel
theorem d5_requireArgument_7 : decode b5_requireArgument 7 = .ok (.dup, 1) := by decide +kernel
theorem d5_requireArgument_8 : decode b5_requireArgument 8 = .ok (.invokespecial 341, 3) := by decide +kernel
theorem d5_requireArgument_11 : decode b5_requireArgument 11 = .ok (.athrow, 1) := by decide +kernel
theorem d5_requireArgument_12 : decode b5_requireArgument 12 = .ok (.return_, 1) := by decide +kernel
abbrev b5_requireState : ByteArray := prog_1_method_68_code
def y5_requireState : MethodName := ⟨"ChannelSchedule", "requireState", "(Z)V"⟩
theorem w5_requireState : YS y5_requireState b5_requireState 1 none 1 := ⟨LW_i 579 (by decide +kernel) (by decide +kernel), LW_i 28 (by decide +kernel) (by decide +kernel), LW_i 580 (by decide +kernel) (by decide +kernel), by decide +kernel, by decide +kernel⟩
theorem d5_requireState_0 : decode b5_requireState 0 = .ok (.iload_n 0, 1) := by decide +kernel
theorem d5_requireState_1 : decode b5_requireState 1 = .ok (.ifCond .ne 11, 3) := by decide +kernel
theorem d5_requireState_4 : decode b5_requireState 4 = .ok (.new 342, 3) := by decide +kernel
theorem d5_requireState_7 : decode b5_requireState 7 = .ok (.dup, 1) := by decide +kernel
theorem d5_requireState_8 : decode b5_requireState 8 = .ok (.invokespecial 344, 3) := by decide +kernel
theorem d5_requireState_11 : decode b5_requireState 11 = .ok (.athrow, 1) := by decide +kernel
theorem d5_requireState_12 : decode b5_requireState 12 = .ok (.return_, 1) := by decide +kernel
abbrev b5_refuse : ByteArray := prog_1_method_70_code
def y5_refuse : MethodName := ⟨"ChannelSchedule", "refuse", "(I)V"⟩
theorem w5_refuse : YS y5_refuse b5_refuse 1 none 1 := ⟨LW_i 576 (by decide +kernel) (by decide +kernel), LW_i 28 (by decide +kernel) (by decide +kernel), LW_i 577 (by decide +kernel) (by decide +kernel), by decide +kernel, by decide +kernel⟩
theorem d5_refuse_0 : decode b5_refuse 0 = .ok (.iload_n 0, 1) := by decide +kernel
theorem d5_refuse_1 : decode b5_refuse 1 = .ok (.iconst 1, 1) := by decide +kernel
theorem d5_refuse_2 : decode b5_refuse 2 = .ok (.if_icmp .eq 7, 3) := by decide +kernel
theorem d5_refuse_5 : decode b5_refuse 5 = .ok (.iconst 1, 1) := by decide +kernel
theorem d5_refuse_6 : decode b5_refuse 6 = .ok (.goto 4, 3) := by decide +kernel
theorem d5_refuse_9 : decode b5_refuse 9 = .ok (.iconst 0, 1) := by decide +kernel
theorem d5_refuse_10 : decode b5_refuse 10 = .ok (.invokestatic 136, 3) := by decide +kernel
theorem d5_refuse_13 : decode b5_refuse 13 = .ok (.iload_n 0, 1) := by decide +kernel
theorem d5_refuse_14 : decode b5_refuse 14 = .ok (.iconst 2, 1) := by decide +kernel
theorem d5_refuse_15 : decode b5_refuse 15 = .ok (.if_icmp .eq 7, 3) := by decide +kernel
theorem d5_refuse_18 : decode b5_refuse 18 = .ok (.iconst 1, 1) := by decide +kernel
theorem d5_refuse_19 : decode b5_refuse 19 = .ok (.goto 4, 3) := by decide +kernel
theorem d5_refuse_22 : decode b5_refuse 22 = .ok (.iconst 0, 1) := by decide +kernel
theorem d5_refuse_23 : decode b5_refuse 23 = .ok (.invokestatic 108, 3) := by decide +kernel
theorem d5_refuse_26 : decode b5_refuse 26 = .ok (.iload_n 0, 1) := by decide +kernel
theorem d5_refuse_27 : decode b5_refuse 27 = .ok (.iconst 3, 1) := by decide +kernel
theorem d5_refuse_28 : decode b5_refuse 28 = .ok (.if_icmp .eq 7, 3) := by decide +kernel
theorem d5_refuse_31 : decode b5_refuse 31 = .ok (.iconst 1, 1) := by decide +kernel
theorem d5_refuse_32 : decode b5_refuse 32 = .ok (.goto 4, 3) := by decide +kernel
theorem d5_refuse_35 : decode b5_refuse 35 = .ok (.iconst 0, 1) := by decide +kernel
theorem d5_refuse_36 : decode b5_refuse 36 = .ok (.invokestatic 97, 3) := by decide +kernel
theorem d5_refuse_39 : decode b5_refuse 39 = .ok (.return_, 1) := by decide +kernel
abbrev b5_isWithin : ByteArray := prog_1_method_71_code
def y5_isWithin : MethodName := ⟨"ChannelSchedule", "isWithin", "(III)Z"⟩
theorem w5_isWithin : YS y5_isWithin b5_isWithin 3 (some .boolean) 3 := ⟨LW_i 545 (by decide +kernel) (by decide +kernel), LW_i 28 (by decide +kernel) (by decide +kernel), LW_i 546 (by decide +kernel) (by decide +kernel), by decide +kernel, by decide +kernel⟩
theorem d5_isWithin_0 : decode b5_isWithin 0 = .ok (.iload_n 0, 1) := by decide +kernel
theorem d5_isWithin_1 : decode b5_isWithin 1 = .ok (.iload_n 1, 1) := by decide +kernel
theorem d5_isWithin_2 : decode b5_isWithin 2 = .ok (.if_icmp .lt 12, 3) := by decide +kernel
theorem d5_isWithin_5 : decode b5_isWithin 5 = .ok (.iload_n 0, 1) := by decide +kernel
theorem d5_isWithin_6 : decode b5_isWithin 6 = .ok (.iload_n 2, 1) := by decide +kernel
theorem d5_isWithin_7 : decode b5_isWithin 7 = .ok (.if_icmp .gt 7, 3) := by decide +kernel
theorem d5_isWithin_10 : decode b5_isWithin 10 = .ok (.iconst 1, 1) := by decide +kernel
theorem d5_isWithin_11 : decode b5_isWithin 11 = .ok (.goto 4, 3) := by decide +kernel
theorem d5_isWithin_14 : decode b5_isWithin 14 = .ok (.iconst 0, 1) := by decide +kernel
theorem d5_isWithin_15 : decode b5_isWithin 15 = .ok (.ireturn, 1) := by decide +kernel
abbrev b5_isNumberBelow : ByteArray := prog_1_method_72_code
def y5_isNumberBelow : MethodName := ⟨"ChannelSchedule", "isNumberBelow", "(II)Z"⟩
theorem w5_isNumberBelow : YS y5_isNumberBelow b5_isNumberBelow 2 (some .boolean) 2 := ⟨LW_i 504 (by decide +kernel) (by decide +kernel), LW_i 28 (by decide +kernel) (by decide +kernel), LW_i 505 (by decide +kernel) (by decide +kernel), by decide +kernel, by decide +kernel⟩
theorem d5_isNumberBelow_0 : decode b5_isNumberBelow 0 = .ok (.iload_n 0, 1) := by decide +kernel
theorem d5_isNumberBelow_1 : decode b5_isNumberBelow 1 = .ok (.ifCond .lt 12, 3) := by decide +kernel
theorem d5_isNumberBelow_4 : decode b5_isNumberBelow 4 = .ok (.iload_n 0, 1) := by decide +kernel
theorem d5_isNumberBelow_5 : decode b5_isNumberBelow 5 = .ok (.iload_n 1, 1) := by decide +kernel
theorem d5_isNumberBelow_6 : decode b5_isNumberBelow 6 = .ok (.if_icmp .ge 7, 3) := by decide +kernel
theorem d5_isNumberBelow_9 : decode b5_isNumberBelow 9 = .ok (.iconst 1, 1) := by decide +kernel
theorem d5_isNumberBelow_10 : decode b5_isNumberBelow 10 = .ok (.goto 4, 3) := by decide +kernel
theorem d5_isNumberBelow_13 : decode b5_isNumberBelow 13 = .ok (.iconst 0, 1) := by decide +kernel
theorem d5_isNumberBelow_14 : decode b5_isNumberBelow 14 = .ok (.ireturn, 1) := by decide +kernel
abbrev b5_isShip : ByteArray := prog_1_method_73_code
def y5_isShip : MethodName := ⟨"ChannelSchedule", "isShip", "(I)Z"⟩
theorem w5_isShip : YV y5_isShip b5_isShip 2 (some .boolean) 1 := ⟨LW_i 501 (by decide +kernel) (by decide +kernel), LW_i 6 (by decide +kernel) (by decide +kernel), LW_i 28 (by decide +kernel) (by decide +kernel), LW_i 502 (by decide +kernel) (by decide +kernel), by decide +kernel, by decide +kernel⟩
theorem d5_isShip_0 : decode b5_isShip 0 = .ok (.iload_n 1, 1) := by decide +kernel
theorem d5_isShip_1 : decode b5_isShip 1 = .ok (.aload_n 0, 1) := by decide +kernel
theorem d5_isShip_2 : decode b5_isShip 2 = .ok (.getfield 26, 3) := by decide +kernel
theorem d5_isShip_5 : decode b5_isShip 5 = .ok (.getfield 111, 3) := by decide +kernel
theorem d5_isShip_8 : decode b5_isShip 8 = .ok (.invokestatic 158, 3) := by decide +kernel
theorem d5_isShip_11 : decode b5_isShip 11 = .ok (.ireturn, 1) := by decide +kernel
abbrev b5_isBooking : ByteArray := prog_1_method_74_code
def y5_isBooking : MethodName := ⟨"ChannelSchedule", "isBooking", "(I)Z"⟩
theorem w5_isBooking : YV y5_isBooking b5_isBooking 2 (some .boolean) 1 := ⟨LW_i 538 (by decide +kernel) (by decide +kernel), LW_i 8 (by decide +kernel) (by decide +kernel), LW_i 28 (by decide +kernel) (by decide +kernel), LW_i 539 (by decide +kernel) (by decide +kernel), by decide +kernel, by decide +kernel⟩
theorem d5_isBooking_0 : decode b5_isBooking 0 = .ok (.iload_n 1, 1) := by decide +kernel
theorem d5_isBooking_1 : decode b5_isBooking 1 = .ok (.aload_n 0, 1) := by decide +kernel
theorem d5_isBooking_2 : decode b5_isBooking 2 = .ok (.getfield 36, 3) := by decide +kernel
theorem d5_isBooking_5 : decode b5_isBooking 5 = .ok (.getfield 175, 3) := by decide +kernel
theorem d5_isBooking_8 : decode b5_isBooking 8 = .ok (.invokestatic 158, 3) := by decide +kernel
theorem d5_isBooking_11 : decode b5_isBooking 11 = .ok (.ireturn, 1) := by decide +kernel
abbrev b5_isRequest : ByteArray := prog_1_method_75_code
def y5_isRequest : MethodName := ⟨"ChannelSchedule", "isRequest", "(I)Z"⟩
theorem w5_isRequest : YV y5_isRequest b5_isRequest 2 (some .boolean) 1 := ⟨LW_i 749 (by decide +kernel) (by decide +kernel), LW_i 23 (by decide +kernel) (by decide +kernel), LW_i 28 (by decide +kernel) (by decide +kernel), LW_i 750 (by decide +kernel) (by decide +kernel), by decide +kernel, by decide +kernel⟩
theorem d5_isRequest_0 : decode b5_isRequest 0 = .ok (.iload_n 1, 1) := by decide +kernel
theorem d5_isRequest_1 : decode b5_isRequest 1 = .ok (.aload_n 0, 1) := by decide +kernel
theorem d5_isRequest_2 : decode b5_isRequest 2 = .ok (.getfield 36, 3) := by decide +kernel
theorem d5_isRequest_5 : decode b5_isRequest 5 = .ok (.getfield 231, 3) := by decide +kernel
theorem d5_isRequest_8 : decode b5_isRequest 8 = .ok (.invokestatic 158, 3) := by decide +kernel
theorem d5_isRequest_11 : decode b5_isRequest 11 = .ok (.ireturn, 1) := by decide +kernel
abbrev b5_transitOf : ByteArray := prog_1_method_76_code
def y5_transitOf : MethodName := ⟨"ChannelSchedule", "transitOf", "(I)I"⟩
theorem w5_transitOf : YV y5_transitOf b5_transitOf 4 (some .int) 1 := ⟨LW_i 526 (by decide +kernel) (by decide +kernel), LW_i 7 (by decide +kernel) (by decide +kernel), LW_i 28 (by decide +kernel) (by decide +kernel), LW_i 527 (by decide +kernel) (by decide +kernel), by decide +kernel, by decide +kernel⟩
theorem d5_transitOf_0 : decode b5_transitOf 0 = .ok (.aload_n 0, 1) := by decide +kernel
theorem d5_transitOf_1 : decode b5_transitOf 1 = .ok (.getfield 26, 3) := by decide +kernel
theorem d5_transitOf_4 : decode b5_transitOf 4 = .ok (.getfield 143, 3) := by decide +kernel
theorem d5_transitOf_7 : decode b5_transitOf 7 = .ok (.iload_n 1, 1) := by decide +kernel
theorem d5_transitOf_8 : decode b5_transitOf 8 = .ok (.aaload, 1) := by decide +kernel
theorem d5_transitOf_9 : decode b5_transitOf 9 = .ok (.astore_n 2, 1) := by decide +kernel
theorem d5_transitOf_10 : decode b5_transitOf 10 = .ok (.aload_n 0, 1) := by decide +kernel
theorem d5_transitOf_11 : decode b5_transitOf 11 = .ok (.getfield 36, 3) := by decide +kernel
theorem d5_transitOf_14 : decode b5_transitOf 14 = .ok (.getfield 126, 3) := by decide +kernel
theorem d5_transitOf_17 : decode b5_transitOf 17 = .ok (.aload_n 2, 1) := by decide +kernel
theorem d5_transitOf_18 : decode b5_transitOf 18 = .ok (.getfield 147, 3) := by decide +kernel
theorem d5_transitOf_21 : decode b5_transitOf 21 = .ok (.isub, 1) := by decide +kernel
theorem d5_transitOf_22 : decode b5_transitOf 22 = .ok (.istore_n 3, 1) := by decide +kernel
theorem d5_transitOf_23 : decode b5_transitOf 23 = .ok (.iload_n 3, 1) := by decide +kernel
theorem d5_transitOf_24 : decode b5_transitOf 24 = .ok (.ifCond .le 14, 3) := by decide +kernel
theorem d5_transitOf_27 : decode b5_transitOf 27 = .ok (.aload_n 2, 1) := by decide +kernel
theorem d5_transitOf_28 : decode b5_transitOf 28 = .ok (.getfield 348, 3) := by decide +kernel
theorem d5_transitOf_31 : decode b5_transitOf 31 = .ok (.iconst 2, 1) := by decide +kernel
theorem d5_transitOf_32 : decode b5_transitOf 32 = .ok (.iload_n 3, 1) := by decide +kernel
theorem d5_transitOf_33 : decode b5_transitOf 33 = .ok (.imul, 1) := by decide +kernel
theorem d5_transitOf_34 : decode b5_transitOf 34 = .ok (.iadd, 1) := by decide +kernel
theorem d5_transitOf_35 : decode b5_transitOf 35 = .ok (.goto 7, 3) := by decide +kernel
theorem d5_transitOf_38 : decode b5_transitOf 38 = .ok (.aload_n 2, 1) := by decide +kernel
theorem d5_transitOf_39 : decode b5_transitOf 39 = .ok (.getfield 348, 3) := by decide +kernel
theorem d5_transitOf_42 : decode b5_transitOf 42 = .ok (.ireturn, 1) := by decide +kernel
abbrev b5_freeAfter : ByteArray := prog_1_method_77_code
def y5_freeAfter : MethodName := ⟨"ChannelSchedule", "freeAfter", "(IIZI)I"⟩
theorem w5_freeAfter : YV y5_freeAfter b5_freeAfter 7 (some .int) 4 := ⟨LW_i 557 (by decide +kernel) (by decide +kernel), LW_i 11 (by decide +kernel) (by decide +kernel), LW_i 28 (by decide +kernel) (by decide +kernel), LW_i 558 (by decide +kernel) (by decide +kernel), by decide +kernel, by decide +kernel⟩
theorem d5_freeAfter_0 : decode b5_freeAfter 0 = .ok (.iload_n 3, 1) := by decide +kernel
theorem d5_freeAfter_1 : decode b5_freeAfter 1 = .ok (.ifCond .ne 13, 3) := by decide +kernel
theorem d5_freeAfter_4 : decode b5_freeAfter 4 = .ok (.iload_n 2, 1) := by decide +kernel
theorem d5_freeAfter_5 : decode b5_freeAfter 5 = .ok (.aload_n 0, 1) := by decide +kernel
theorem d5_freeAfter_6 : decode b5_freeAfter 6 = .ok (.getfield 26, 3) := by decide +kernel
theorem d5_freeAfter_9 : decode b5_freeAfter 9 = .ok (.getfield 123, 3) := by decide +kernel
theorem d5_freeAfter_12 : decode b5_freeAfter 12 = .ok (.iadd, 1) := by decide +kernel
theorem d5_freeAfter_13 : decode b5_freeAfter 13 = .ok (.ireturn, 1) := by decide +kernel
theorem d5_freeAfter_14 : decode b5_freeAfter 14 = .ok (.aload_n 0, 1) := by decide +kernel
theorem d5_freeAfter_15 : decode b5_freeAfter 15 = .ok (.getfield 26, 3) := by decide +kernel
theorem d5_freeAfter_18 : decode b5_freeAfter 18 = .ok (.getfield 120, 3) := by decide +kernel
theorem d5_freeAfter_21 : decode b5_freeAfter 21 = .ok (.ifCond .le 15, 3) := by decide +kernel
theorem d5_freeAfter_24 : decode b5_freeAfter 24 = .ok (.iload_n 1, 1) := by decide +kernel
theorem d5_freeAfter_25 : decode b5_freeAfter 25 = .ok (.aload_n 0, 1) := by decide +kernel
theorem d5_freeAfter_26 : decode b5_freeAfter 26 = .ok (.getfield 26, 3) := by decide +kernel
theorem d5_freeAfter_29 : decode b5_freeAfter 29 = .ok (.getfield 120, 3) := by decide +kernel
theorem d5_freeAfter_32 : decode b5_freeAfter 32 = .ok (.iadd, 1) := by decide +kernel
theorem d5_freeAfter_33 : decode b5_freeAfter 33 = .ok (.goto 6, 3) := by decide +kernel
theorem d5_freeAfter_36 : decode b5_freeAfter 36 = .ok (.iload_n 1, 1) := by decide +kernel
theorem d5_freeAfter_37 : decode b5_freeAfter 37 = .ok (.iconst 1, 1) := by decide +kernel
theorem d5_freeAfter_38 : decode b5_freeAfter 38 = .ok (.iadd, 1) := by decide +kernel
theorem d5_freeAfter_39 : decode b5_freeAfter 39 = .ok (.istore 5, 2) := by decide +kernel
theorem d5_freeAfter_41 : decode b5_freeAfter 41 = .ok (.iload_n 2, 1) := by decide +kernel
theorem d5_freeAfter_42 : decode b5_freeAfter 42 = .ok (.aload_n 0, 1) := by decide +kernel
theorem d5_freeAfter_43 : decode b5_freeAfter 43 = .ok (.getfield 26, 3) := by decide +kernel
theorem d5_freeAfter_46 : decode b5_freeAfter 46 = .ok (.getfield 120, 3) := by decide +kernel
theorem d5_freeAfter_49 : decode b5_freeAfter 49 = .ok (.iadd, 1) := by decide +kernel
theorem d5_freeAfter_50 : decode b5_freeAfter 50 = .ok (.iload 4, 2) := by decide +kernel
theorem d5_freeAfter_52 : decode b5_freeAfter 52 = .ok (.isub, 1) := by decide +kernel
theorem d5_freeAfter_53 : decode b5_freeAfter 53 = .ok (.istore 6, 2) := by decide +kernel
theorem d5_freeAfter_55 : decode b5_freeAfter 55 = .ok (.iload 5, 2) := by decide +kernel
theorem d5_freeAfter_57 : decode b5_freeAfter 57 = .ok (.iload 6, 2) := by decide +kernel
theorem d5_freeAfter_59 : decode b5_freeAfter 59 = .ok (.if_icmp .le 8, 3) := by decide +kernel
theorem d5_freeAfter_62 : decode b5_freeAfter 62 = .ok (.iload 5, 2) := by decide +kernel
theorem d5_freeAfter_64 : decode b5_freeAfter 64 = .ok (.goto 5, 3) := by decide +kernel
theorem d5_freeAfter_67 : decode b5_freeAfter 67 = .ok (.iload 6, 2) := by decide +kernel
theorem d5_freeAfter_69 : decode b5_freeAfter 69 = .ok (.ireturn, 1) := by decide +kernel
abbrev b5_freeBefore : ByteArray := prog_1_method_78_code
def y5_freeBefore : MethodName := ⟨"ChannelSchedule", "freeBefore", "(IIZI)I"⟩
theorem w5_freeBefore : YV y5_freeBefore b5_freeBefore 7 (some .int) 4 := ⟨LW_i 553 (by decide +kernel) (by decide +kernel), LW_i 10 (by decide +kernel) (by decide +kernel), LW_i 28 (by decide +kernel) (by decide +kernel), LW_i 554 (by decide +kernel) (by decide +kernel), by decide +kernel, by decide +kernel⟩
theorem d5_freeBefore_0 : decode b5_freeBefore 0 = .ok (.iload_n 3, 1) := by decide +kernel
theorem d5_freeBefore_1 : decode b5_freeBefore 1 = .ok (.ifCond .ne 16, 3) := by decide +kernel
theorem d5_freeBefore_4 : decode b5_freeBefore 4 = .ok (.iload_n 1, 1) := by decide +kernel
theorem d5_freeBefore_5 : decode b5_freeBefore 5 = .ok (.aload_n 0, 1) := by decide +kernel
theorem d5_freeBefore_6 : decode b5_freeBefore 6 = .ok (.getfield 26, 3) := by decide +kernel
theorem d5_freeBefore_9 : decode b5_freeBefore 9 = .ok (.getfield 123, 3) := by decide +kernel
theorem d5_freeBefore_12 : decode b5_freeBefore 12 = .ok (.isub, 1) := by decide +kernel
theorem d5_freeBefore_13 : decode b5_freeBefore 13 = .ok (.iload 4, 2) := by decide +kernel
theorem d5_freeBefore_15 : decode b5_freeBefore 15 = .ok (.isub, 1) := by decide +kernel
theorem d5_freeBefore_16 : decode b5_freeBefore 16 = .ok (.ireturn, 1) := by decide +kernel
theorem d5_freeBefore_17 : decode b5_freeBefore 17 = .ok (.aload_n 0, 1) := by decide +kernel
theorem d5_freeBefore_18 : decode b5_freeBefore 18 = .ok (.getfield 26, 3) := by decide +kernel
theorem d5_freeBefore_21 : decode b5_freeBefore 21 = .ok (.getfield 120, 3) := by decide +kernel
theorem d5_freeBefore_24 : decode b5_freeBefore 24 = .ok (.ifCond .le 15, 3) := by decide +kernel
theorem d5_freeBefore_27 : decode b5_freeBefore 27 = .ok (.iload_n 1, 1) := by decide +kernel
theorem d5_freeBefore_28 : decode b5_freeBefore 28 = .ok (.aload_n 0, 1) := by decide +kernel
theorem d5_freeBefore_29 : decode b5_freeBefore 29 = .ok (.getfield 26, 3) := by decide +kernel
theorem d5_freeBefore_32 : decode b5_freeBefore 32 = .ok (.getfield 120, 3) := by decide +kernel
theorem d5_freeBefore_35 : decode b5_freeBefore 35 = .ok (.isub, 1) := by decide +kernel
theorem d5_freeBefore_36 : decode b5_freeBefore 36 = .ok (.goto 6, 3) := by decide +kernel
theorem d5_freeBefore_39 : decode b5_freeBefore 39 = .ok (.iload_n 1, 1) := by decide +kernel
theorem d5_freeBefore_40 : decode b5_freeBefore 40 = .ok (.iconst 1, 1) := by decide +kernel
theorem d5_freeBefore_41 : decode b5_freeBefore 41 = .ok (.isub, 1) := by decide +kernel
theorem d5_freeBefore_42 : decode b5_freeBefore 42 = .ok (.istore 5, 2) := by decide +kernel
theorem d5_freeBefore_44 : decode b5_freeBefore 44 = .ok (.iload_n 2, 1) := by decide +kernel
theorem d5_freeBefore_45 : decode b5_freeBefore 45 = .ok (.aload_n 0, 1) := by decide +kernel
theorem d5_freeBefore_46 : decode b5_freeBefore 46 = .ok (.getfield 26, 3) := by decide +kernel
theorem d5_freeBefore_49 : decode b5_freeBefore 49 = .ok (.getfield 120, 3) := by decide +kernel
theorem d5_freeBefore_52 : decode b5_freeBefore 52 = .ok (.isub, 1) := by decide +kernel
theorem d5_freeBefore_53 : decode b5_freeBefore 53 = .ok (.iload 4, 2) := by decide +kernel
theorem d5_freeBefore_55 : decode b5_freeBefore 55 = .ok (.isub, 1) := by decide +kernel
theorem d5_freeBefore_56 : decode b5_freeBefore 56 = .ok (.istore 6, 2) := by decide +kernel
theorem d5_freeBefore_58 : decode b5_freeBefore 58 = .ok (.iload 5, 2) := by decide +kernel
theorem d5_freeBefore_60 : decode b5_freeBefore 60 = .ok (.iload 6, 2) := by decide +kernel
theorem d5_freeBefore_62 : decode b5_freeBefore 62 = .ok (.if_icmp .ge 8, 3) := by decide +kernel
theorem d5_freeBefore_65 : decode b5_freeBefore 65 = .ok (.iload 5, 2) := by decide +kernel
theorem d5_freeBefore_67 : decode b5_freeBefore 67 = .ok (.goto 5, 3) := by decide +kernel
theorem d5_freeBefore_70 : decode b5_freeBefore 70 = .ok (.iload 6, 2) := by decide +kernel
theorem d5_freeBefore_72 : decode b5_freeBefore 72 = .ok (.ireturn, 1) := by decide +kernel
abbrev b5_clashes : ByteArray := prog_1_method_79_code
def y5_clashes : MethodName := ⟨"ChannelSchedule", "clashes", "(IZII)Z"⟩
theorem w5_clashes : YV y5_clashes b5_clashes 6 (some .boolean) 4 := ⟨LW_i 549 (by decide +kernel) (by decide +kernel), LW_i 9 (by decide +kernel) (by decide +kernel), LW_i 28 (by decide +kernel) (by decide +kernel), LW_i 550 (by decide +kernel) (by decide +kernel), by decide +kernel, by decide +kernel⟩
theorem d5_clashes_0 : decode b5_clashes 0 = .ok (.aload_n 0, 1) := by decide +kernel
theorem d5_clashes_1 : decode b5_clashes 1 = .ok (.getfield 36, 3) := by decide +kernel
theorem d5_clashes_4 : decode b5_clashes 4 = .ok (.getfield 189, 3) := by decide +kernel
theorem d5_clashes_7 : decode b5_clashes 7 = .ok (.iload_n 1, 1) := by decide +kernel
theorem d5_clashes_8 : decode b5_clashes 8 = .ok (.baload, 1) := by decide +kernel
theorem d5_clashes_9 : decode b5_clashes 9 = .ok (.iload_n 2, 1) := by decide +kernel
theorem d5_clashes_10 : decode b5_clashes 10 = .ok (.if_icmp .ne 7, 3) := by decide +kernel
theorem d5_clashes_13 : decode b5_clashes 13 = .ok (.iconst 1, 1) := by decide +kernel
theorem d5_clashes_14 : decode b5_clashes 14 = .ok (.goto 4, 3) := by decide +kernel
theorem d5_clashes_17 : decode b5_clashes 17 = .ok (.iconst 0, 1) := by decide +kernel
theorem d5_clashes_18 : decode b5_clashes 18 = .ok (.istore 5, 2) := by decide +kernel
theorem d5_clashes_20 : decode b5_clashes 20 = .ok (.iload_n 3, 1) := by decide +kernel
theorem d5_clashes_21 : decode b5_clashes 21 = .ok (.aload_n 0, 1) := by decide +kernel
theorem d5_clashes_22 : decode b5_clashes 22 = .ok (.aload_n 0, 1) := by decide +kernel
theorem d5_clashes_23 : decode b5_clashes 23 = .ok (.getfield 36, 3) := by decide +kernel
theorem d5_clashes_26 : decode b5_clashes 26 = .ok (.getfield 183, 3) := by decide +kernel
theorem d5_clashes_29 : decode b5_clashes 29 = .ok (.iload_n 1, 1) := by decide +kernel
theorem d5_clashes_30 : decode b5_clashes 30 = .ok (.iaload, 1) := by decide +kernel
theorem d5_clashes_31 : decode b5_clashes 31 = .ok (.aload_n 0, 1) := by decide +kernel
theorem d5_clashes_32 : decode b5_clashes 32 = .ok (.getfield 36, 3) := by decide +kernel
theorem d5_clashes_35 : decode b5_clashes 35 = .ok (.getfield 186, 3) := by decide +kernel
theorem d5_clashes_38 : decode b5_clashes 38 = .ok (.iload_n 1, 1) := by decide +kernel
theorem d5_clashes_39 : decode b5_clashes 39 = .ok (.iaload, 1) := by decide +kernel
theorem d5_clashes_40 : decode b5_clashes 40 = .ok (.iload 5, 2) := by decide +kernel
theorem d5_clashes_42 : decode b5_clashes 42 = .ok (.iload 4, 2) := by decide +kernel
theorem d5_clashes_44 : decode b5_clashes 44 = .ok (.invokevirtual 224, 3) := by decide +kernel
theorem d5_clashes_47 : decode b5_clashes 47 = .ok (.if_icmp .le 37, 3) := by decide +kernel
theorem d5_clashes_50 : decode b5_clashes 50 = .ok (.iload_n 3, 1) := by decide +kernel
theorem d5_clashes_51 : decode b5_clashes 51 = .ok (.aload_n 0, 1) := by decide +kernel
theorem d5_clashes_52 : decode b5_clashes 52 = .ok (.aload_n 0, 1) := by decide +kernel
theorem d5_clashes_53 : decode b5_clashes 53 = .ok (.getfield 36, 3) := by decide +kernel
theorem d5_clashes_56 : decode b5_clashes 56 = .ok (.getfield 183, 3) := by decide +kernel
theorem d5_clashes_59 : decode b5_clashes 59 = .ok (.iload_n 1, 1) := by decide +kernel
theorem d5_clashes_60 : decode b5_clashes 60 = .ok (.iaload, 1) := by decide +kernel
theorem d5_clashes_61 : decode b5_clashes 61 = .ok (.aload_n 0, 1) := by decide +kernel
theorem d5_clashes_62 : decode b5_clashes 62 = .ok (.getfield 36, 3) := by decide +kernel
theorem d5_clashes_65 : decode b5_clashes 65 = .ok (.getfield 186, 3) := by decide +kernel
theorem d5_clashes_68 : decode b5_clashes 68 = .ok (.iload_n 1, 1) := by decide +kernel
theorem d5_clashes_69 : decode b5_clashes 69 = .ok (.iaload, 1) := by decide +kernel
theorem d5_clashes_70 : decode b5_clashes 70 = .ok (.iload 5, 2) := by decide +kernel
theorem d5_clashes_72 : decode b5_clashes 72 = .ok (.iload 4, 2) := by decide +kernel
theorem d5_clashes_74 : decode b5_clashes 74 = .ok (.invokevirtual 351, 3) := by decide +kernel
theorem d5_clashes_77 : decode b5_clashes 77 = .ok (.if_icmp .ge 7, 3) := by decide +kernel
theorem d5_clashes_80 : decode b5_clashes 80 = .ok (.iconst 1, 1) := by decide +kernel
theorem d5_clashes_81 : decode b5_clashes 81 = .ok (.goto 4, 3) := by decide +kernel
theorem d5_clashes_84 : decode b5_clashes 84 = .ok (.iconst 0, 1) := by decide +kernel
theorem d5_clashes_85 : decode b5_clashes 85 = .ok (.ireturn, 1) := by decide +kernel
abbrev b5_firstClash : ByteArray := prog_1_method_80_code
def y5_firstClash : MethodName := ⟨"ChannelSchedule", "firstClash", "(ZIII)I"⟩
theorem w5_firstClash : YV y5_firstClash b5_firstClash 6 (some .int) 4 := ⟨LW_i 573 (by decide +kernel) (by decide +kernel), LW_i 13 (by decide +kernel) (by decide +kernel), LW_i 28 (by decide +kernel) (by decide +kernel), LW_i 574 (by decide +kernel) (by decide +kernel), by decide +kernel, by decide +kernel⟩
theorem d5_firstClash_0 : decode b5_firstClash 0 = .ok (.iconst 0, 1) := by decide +kernel
theorem d5_firstClash_1 : decode b5_firstClash 1 = .ok (.istore 5, 2) := by decide +kernel
theorem d5_firstClash_3 : decode b5_firstClash 3 = .ok (.iload 5, 2) := by decide +kernel
theorem d5_firstClash_5 : decode b5_firstClash 5 = .ok (.aload_n 0, 1) := by decide +kernel
theorem d5_firstClash_6 : decode b5_firstClash 6 = .ok (.getfield 36, 3) := by decide +kernel
theorem d5_firstClash_9 : decode b5_firstClash 9 = .ok (.getfield 175, 3) := by decide +kernel
theorem d5_firstClash_12 : decode b5_firstClash 12 = .ok (.if_icmp .ge 31, 3) := by decide +kernel
theorem d5_firstClash_15 : decode b5_firstClash 15 = .ok (.iload 5, 2) := by decide +kernel
theorem d5_firstClash_17 : decode b5_firstClash 17 = .ok (.iload 4, 2) := by decide +kernel
theorem d5_firstClash_19 : decode b5_firstClash 19 = .ok (.if_icmp .eq 18, 3) := by decide +kernel
theorem d5_firstClash_22 : decode b5_firstClash 22 = .ok (.aload_n 0, 1) := by decide +kernel
theorem d5_firstClash_23 : decode b5_firstClash 23 = .ok (.iload 5, 2) := by decide +kernel
theorem d5_firstClash_25 : decode b5_firstClash 25 = .ok (.iload_n 1, 1) := by decide +kernel
theorem d5_firstClash_26 : decode b5_firstClash 26 = .ok (.iload_n 2, 1) := by decide +kernel
theorem d5_firstClash_27 : decode b5_firstClash 27 = .ok (.iload_n 3, 1) := by decide +kernel
theorem d5_firstClash_28 : decode b5_firstClash 28 = .ok (.invokevirtual 205, 3) := by decide +kernel
theorem d5_firstClash_31 : decode b5_firstClash 31 = .ok (.ifCond .eq 6, 3) := by decide +kernel
theorem d5_firstClash_34 : decode b5_firstClash 34 = .ok (.iload 5, 2) := by decide +kernel
theorem d5_firstClash_36 : decode b5_firstClash 36 = .ok (.ireturn, 1) := by decide +kernel
theorem d5_firstClash_37 : decode b5_firstClash 37 = .ok (.iinc 5 1, 3) := by decide +kernel
theorem d5_firstClash_40 : decode b5_firstClash 40 = .ok (.goto (-37), 3) := by decide +kernel
theorem d5_firstClash_43 : decode b5_firstClash 43 = .ok (.iconst (-1), 1) := by decide +kernel
theorem d5_firstClash_44 : decode b5_firstClash 44 = .ok (.ireturn, 1) := by decide +kernel
abbrev b5_leastFreeStart : ByteArray := prog_1_method_81_code
def y5_leastFreeStart : MethodName := ⟨"ChannelSchedule", "leastFreeStart", "(ZIIII)I"⟩
theorem w5_leastFreeStart : YV y5_leastFreeStart b5_leastFreeStart 12 (some .int) 5 := ⟨LW_i 634 (by decide +kernel) (by decide +kernel), LW_i 18 (by decide +kernel) (by decide +kernel), LW_i 28 (by decide +kernel) (by decide +kernel), LW_i 635 (by decide +kernel) (by decide +kernel), by decide +kernel, by decide +kernel⟩
theorem d5_leastFreeStart_0 : decode b5_leastFreeStart 0 = .ok (.iload_n 2, 1) := by decide +kernel
theorem d5_leastFreeStart_1 : decode b5_leastFreeStart 1 = .ok (.istore 6, 2) := by decide +kernel
theorem d5_leastFreeStart_3 : decode b5_leastFreeStart 3 = .ok (.iconst 0, 1) := by decide +kernel
theorem d5_leastFreeStart_4 : decode b5_leastFreeStart 4 = .ok (.istore 7, 2) := by decide +kernel
theorem d5_leastFreeStart_6 : decode b5_leastFreeStart 6 = .ok (.iload 7, 2) := by decide +kernel
theorem d5_leastFreeStart_8 : decode b5_leastFreeStart 8 = .ok (.aload_n 0, 1) := by decide +kernel
theorem d5_leastFreeStart_9 : decode b5_leastFreeStart 9 = .ok (.getfield 36, 3) := by decide +kernel
theorem d5_leastFreeStart_12 : decode b5_leastFreeStart 12 = .ok (.getfield 175, 3) := by decide +kernel
theorem d5_leastFreeStart_15 : decode b5_leastFreeStart 15 = .ok (.if_icmp .gt 152, 3) := by decide +kernel
theorem d5_leastFreeStart_18 : decode b5_leastFreeStart 18 = .ok (.iload 6, 2) := by decide +kernel
theorem d5_leastFreeStart_20 : decode b5_leastFreeStart 20 = .ok (.iload_n 3, 1) := by decide +kernel
theorem d5_leastFreeStart_21 : decode b5_leastFreeStart 21 = .ok (.if_icmp .gt 146, 3) := by decide +kernel
theorem d5_leastFreeStart_24 : decode b5_leastFreeStart 24 = .ok (.iload 6, 2) := by decide +kernel
theorem d5_leastFreeStart_26 : decode b5_leastFreeStart 26 = .ok (.istore 8, 2) := by decide +kernel
theorem d5_leastFreeStart_28 : decode b5_leastFreeStart 28 = .ok (.iconst 0, 1) := by decide +kernel
theorem d5_leastFreeStart_29 : decode b5_leastFreeStart 29 = .ok (.istore 9, 2) := by decide +kernel
theorem d5_leastFreeStart_31 : decode b5_leastFreeStart 31 = .ok (.iload 9, 2) := by decide +kernel
theorem d5_leastFreeStart_33 : decode b5_leastFreeStart 33 = .ok (.aload_n 0, 1) := by decide +kernel
theorem d5_leastFreeStart_34 : decode b5_leastFreeStart 34 = .ok (.getfield 36, 3) := by decide +kernel
theorem d5_leastFreeStart_37 : decode b5_leastFreeStart 37 = .ok (.getfield 175, 3) := by decide +kernel
theorem d5_leastFreeStart_40 : decode b5_leastFreeStart 40 = .ok (.if_icmp .ge 111, 3) := by decide +kernel
theorem d5_leastFreeStart_43 : decode b5_leastFreeStart 43 = .ok (.aload_n 0, 1) := by decide +kernel
theorem d5_leastFreeStart_44 : decode b5_leastFreeStart 44 = .ok (.getfield 36, 3) := by decide +kernel
theorem d5_leastFreeStart_47 : decode b5_leastFreeStart 47 = .ok (.getfield 189, 3) := by decide +kernel
theorem d5_leastFreeStart_50 : decode b5_leastFreeStart 50 = .ok (.iload 9, 2) := by decide +kernel
theorem d5_leastFreeStart_52 : decode b5_leastFreeStart 52 = .ok (.baload, 1) := by decide +kernel
theorem d5_leastFreeStart_53 : decode b5_leastFreeStart 53 = .ok (.iload_n 1, 1) := by decide +kernel
theorem d5_leastFreeStart_54 : decode b5_leastFreeStart 54 = .ok (.if_icmp .ne 7, 3) := by decide +kernel
theorem d5_leastFreeStart_57 : decode b5_leastFreeStart 57 = .ok (.iconst 1, 1) := by decide +kernel
theorem d5_leastFreeStart_58 : decode b5_leastFreeStart 58 = .ok (.goto 4, 3) := by decide +kernel
theorem d5_leastFreeStart_61 : decode b5_leastFreeStart 61 = .ok (.iconst 0, 1) := by decide +kernel
theorem d5_leastFreeStart_62 : decode b5_leastFreeStart 62 = .ok (.istore 10, 2) := by decide +kernel
theorem d5_leastFreeStart_64 : decode b5_leastFreeStart 64 = .ok (.aload_n 0, 1) := by decide +kernel
theorem d5_leastFreeStart_65 : decode b5_leastFreeStart 65 = .ok (.aload_n 0, 1) := by decide +kernel
theorem d5_leastFreeStart_66 : decode b5_leastFreeStart 66 = .ok (.getfield 36, 3) := by decide +kernel
theorem d5_leastFreeStart_69 : decode b5_leastFreeStart 69 = .ok (.getfield 183, 3) := by decide +kernel
theorem d5_leastFreeStart_72 : decode b5_leastFreeStart 72 = .ok (.iload 9, 2) := by decide +kernel
theorem d5_leastFreeStart_74 : decode b5_leastFreeStart 74 = .ok (.iaload, 1) := by decide +kernel
theorem d5_leastFreeStart_75 : decode b5_leastFreeStart 75 = .ok (.aload_n 0, 1) := by decide +kernel
theorem d5_leastFreeStart_76 : decode b5_leastFreeStart 76 = .ok (.getfield 36, 3) := by decide +kernel
theorem d5_leastFreeStart_79 : decode b5_leastFreeStart 79 = .ok (.getfield 186, 3) := by decide +kernel
theorem d5_leastFreeStart_82 : decode b5_leastFreeStart 82 = .ok (.iload 9, 2) := by decide +kernel
theorem d5_leastFreeStart_84 : decode b5_leastFreeStart 84 = .ok (.iaload, 1) := by decide +kernel
theorem d5_leastFreeStart_85 : decode b5_leastFreeStart 85 = .ok (.iload 10, 2) := by decide +kernel
theorem d5_leastFreeStart_87 : decode b5_leastFreeStart 87 = .ok (.iload 4, 2) := by decide +kernel
theorem d5_leastFreeStart_89 : decode b5_leastFreeStart 89 = .ok (.invokevirtual 351, 3) := by decide +kernel
theorem d5_leastFreeStart_92 : decode b5_leastFreeStart 92 = .ok (.istore 11, 2) := by decide +kernel
theorem d5_leastFreeStart_94 : decode b5_leastFreeStart 94 = .ok (.iload 9, 2) := by decide +kernel
theorem d5_leastFreeStart_96 : decode b5_leastFreeStart 96 = .ok (.iload 5, 2) := by decide +kernel
theorem d5_leastFreeStart_98 : decode b5_leastFreeStart 98 = .ok (.if_icmp .eq 47, 3) := by decide +kernel
theorem d5_leastFreeStart_101 : decode b5_leastFreeStart 101 = .ok (.iload 6, 2) := by decide +kernel
theorem d5_leastFreeStart_103 : decode b5_leastFreeStart 103 = .ok (.iload 11, 2) := by decide +kernel
theorem d5_leastFreeStart_105 : decode b5_leastFreeStart 105 = .ok (.if_icmp .ge 40, 3) := by decide +kernel
theorem d5_leastFreeStart_108 : decode b5_leastFreeStart 108 = .ok (.iload 6, 2) := by decide +kernel
theorem d5_leastFreeStart_110 : decode b5_leastFreeStart 110 = .ok (.aload_n 0, 1) := by decide +kernel
theorem d5_leastFreeStart_111 : decode b5_leastFreeStart 111 = .ok (.aload_n 0, 1) := by decide +kernel
theorem d5_leastFreeStart_112 : decode b5_leastFreeStart 112 = .ok (.getfield 36, 3) := by decide +kernel
theorem d5_leastFreeStart_115 : decode b5_leastFreeStart 115 = .ok (.getfield 183, 3) := by decide +kernel
theorem d5_leastFreeStart_118 : decode b5_leastFreeStart 118 = .ok (.iload 9, 2) := by decide +kernel
theorem d5_leastFreeStart_120 : decode b5_leastFreeStart 120 = .ok (.iaload, 1) := by decide +kernel
theorem d5_leastFreeStart_121 : decode b5_leastFreeStart 121 = .ok (.aload_n 0, 1) := by decide +kernel
theorem d5_leastFreeStart_122 : decode b5_leastFreeStart 122 = .ok (.getfield 36, 3) := by decide +kernel
theorem d5_leastFreeStart_125 : decode b5_leastFreeStart 125 = .ok (.getfield 186, 3) := by decide +kernel
theorem d5_leastFreeStart_128 : decode b5_leastFreeStart 128 = .ok (.iload 9, 2) := by decide +kernel
theorem d5_leastFreeStart_130 : decode b5_leastFreeStart 130 = .ok (.iaload, 1) := by decide +kernel
theorem d5_leastFreeStart_131 : decode b5_leastFreeStart 131 = .ok (.iload 10, 2) := by decide +kernel
theorem d5_leastFreeStart_133 : decode b5_leastFreeStart 133 = .ok (.iload 4, 2) := by decide +kernel
theorem d5_leastFreeStart_135 : decode b5_leastFreeStart 135 = .ok (.invokevirtual 224, 3) := by decide +kernel
theorem d5_leastFreeStart_138 : decode b5_leastFreeStart 138 = .ok (.if_icmp .le 7, 3) := by decide +kernel
theorem d5_leastFreeStart_141 : decode b5_leastFreeStart 141 = .ok (.iload 11, 2) := by decide +kernel
theorem d5_leastFreeStart_143 : decode b5_leastFreeStart 143 = .ok (.istore 6, 2) := by decide +kernel
theorem d5_leastFreeStart_145 : decode b5_leastFreeStart 145 = .ok (.iinc 9 1, 3) := by decide +kernel
theorem d5_leastFreeStart_148 : decode b5_leastFreeStart 148 = .ok (.goto (-117), 3) := by decide +kernel
theorem d5_leastFreeStart_151 : decode b5_leastFreeStart 151 = .ok (.iload 6, 2) := by decide +kernel
theorem d5_leastFreeStart_153 : decode b5_leastFreeStart 153 = .ok (.iload 8, 2) := by decide +kernel
theorem d5_leastFreeStart_155 : decode b5_leastFreeStart 155 = .ok (.if_icmp .ne 6, 3) := by decide +kernel
theorem d5_leastFreeStart_158 : decode b5_leastFreeStart 158 = .ok (.iload 6, 2) := by decide +kernel
theorem d5_leastFreeStart_160 : decode b5_leastFreeStart 160 = .ok (.ireturn, 1) := by decide +kernel
theorem d5_leastFreeStart_161 : decode b5_leastFreeStart 161 = .ok (.iinc 7 1, 3) := by decide +kernel
theorem d5_leastFreeStart_164 : decode b5_leastFreeStart 164 = .ok (.goto (-158), 3) := by decide +kernel
theorem d5_leastFreeStart_167 : decode b5_leastFreeStart 167 = .ok (.iconst (-1), 1) := by decide +kernel
theorem d5_leastFreeStart_168 : decode b5_leastFreeStart 168 = .ok (.ireturn, 1) := by decide +kernel
abbrev b5_startToServe : ByteArray := prog_1_method_87_code
def y5_startToServe : MethodName := ⟨"ChannelSchedule", "startToServe", "(IZII)I"⟩
theorem w5_startToServe : YV y5_startToServe b5_startToServe 6 (some .int) 4 := ⟨LW_i 630 (by decide +kernel) (by decide +kernel), LW_i 17 (by decide +kernel) (by decide +kernel), LW_i 28 (by decide +kernel) (by decide +kernel), LW_i 631 (by decide +kernel) (by decide +kernel), by decide +kernel, by decide +kernel⟩
theorem d5_startToServe_0 : decode b5_startToServe 0 = .ok (.aload_n 0, 1) := by decide +kernel
theorem d5_startToServe_1 : decode b5_startToServe 1 = .ok (.getfield 36, 3) := by decide +kernel
theorem d5_startToServe_4 : decode b5_startToServe 4 = .ok (.getfield 175, 3) := by decide +kernel
theorem d5_startToServe_7 : decode b5_startToServe 7 = .ok (.bipush 20, 2) := by decide +kernel
theorem d5_startToServe_9 : decode b5_startToServe 9 = .ok (.if_icmp .ne 5, 3) := by decide +kernel
theorem d5_startToServe_12 : decode b5_startToServe 12 = .ok (.iconst (-1), 1) := by decide +kernel
theorem d5_startToServe_13 : decode b5_startToServe 13 = .ok (.ireturn, 1) := by decide +kernel
theorem d5_startToServe_14 : decode b5_startToServe 14 = .ok (.iload_n 3, 1) := by decide +kernel
theorem d5_startToServe_15 : decode b5_startToServe 15 = .ok (.aload_n 0, 1) := by decide +kernel
theorem d5_startToServe_16 : decode b5_startToServe 16 = .ok (.getfield 36, 3) := by decide +kernel
theorem d5_startToServe_19 : decode b5_startToServe 19 = .ok (.getfield 129, 3) := by decide +kernel
theorem d5_startToServe_22 : decode b5_startToServe 22 = .ok (.if_icmp .le 7, 3) := by decide +kernel
theorem d5_startToServe_25 : decode b5_startToServe 25 = .ok (.iload_n 3, 1) := by decide +kernel
theorem d5_startToServe_26 : decode b5_startToServe 26 = .ok (.goto 10, 3) := by decide +kernel
theorem d5_startToServe_29 : decode b5_startToServe 29 = .ok (.aload_n 0, 1) := by decide +kernel
theorem d5_startToServe_30 : decode b5_startToServe 30 = .ok (.getfield 36, 3) := by decide +kernel
theorem d5_startToServe_33 : decode b5_startToServe 33 = .ok (.getfield 129, 3) := by decide +kernel
theorem d5_startToServe_36 : decode b5_startToServe 36 = .ok (.istore 5, 2) := by decide +kernel
theorem d5_startToServe_38 : decode b5_startToServe 38 = .ok (.aload_n 0, 1) := by decide +kernel
theorem d5_startToServe_39 : decode b5_startToServe 39 = .ok (.iload_n 2, 1) := by decide +kernel
theorem d5_startToServe_40 : decode b5_startToServe 40 = .ok (.iload 5, 2) := by decide +kernel
theorem d5_startToServe_42 : decode b5_startToServe 42 = .ok (.iload 4, 2) := by decide +kernel
theorem d5_startToServe_44 : decode b5_startToServe 44 = .ok (.aload_n 0, 1) := by decide +kernel
theorem d5_startToServe_45 : decode b5_startToServe 45 = .ok (.iload_n 1, 1) := by decide +kernel
theorem d5_startToServe_46 : decode b5_startToServe 46 = .ok (.invokevirtual 139, 3) := by decide +kernel
theorem d5_startToServe_49 : decode b5_startToServe 49 = .ok (.iconst (-1), 1) := by decide +kernel
theorem d5_startToServe_50 : decode b5_startToServe 50 = .ok (.invokevirtual 213, 3) := by decide +kernel
theorem d5_startToServe_53 : decode b5_startToServe 53 = .ok (.ireturn, 1) := by decide +kernel
abbrev b5_serveWaiting : ByteArray := prog_1_method_88_code
def y5_serveWaiting : MethodName := ⟨"ChannelSchedule", "serveWaiting", "()I"⟩
theorem w5_serveWaiting : YV y5_serveWaiting b5_serveWaiting 7 (some .int) 0 := ⟨LW_i 662 (by decide +kernel) (by decide +kernel), LW_i 22 (by decide +kernel) (by decide +kernel), LW_i 28 (by decide +kernel) (by decide +kernel), LW_i 663 (by decide +kernel) (by decide +kernel), by decide +kernel, by decide +kernel⟩
theorem d5_serveWaiting_0 : decode b5_serveWaiting 0 = .ok (.iconst 0, 1) := by decide +kernel
theorem d5_serveWaiting_1 : decode b5_serveWaiting 1 = .ok (.istore_n 1, 1) := by decide +kernel
theorem d5_serveWaiting_2 : decode b5_serveWaiting 2 = .ok (.iconst 0, 1) := by decide +kernel
theorem d5_serveWaiting_3 : decode b5_serveWaiting 3 = .ok (.istore_n 2, 1) := by decide +kernel
theorem d5_serveWaiting_4 : decode b5_serveWaiting 4 = .ok (.aload_n 0, 1) := by decide +kernel
theorem d5_serveWaiting_5 : decode b5_serveWaiting 5 = .ok (.getfield 36, 3) := by decide +kernel
theorem d5_serveWaiting_8 : decode b5_serveWaiting 8 = .ok (.getfield 231, 3) := by decide +kernel
theorem d5_serveWaiting_11 : decode b5_serveWaiting 11 = .ok (.istore_n 3, 1) := by decide +kernel
theorem d5_serveWaiting_12 : decode b5_serveWaiting 12 = .ok (.iload_n 3, 1) := by decide +kernel
theorem d5_serveWaiting_13 : decode b5_serveWaiting 13 = .ok (.ifCond .le 93, 3) := by decide +kernel
theorem d5_serveWaiting_16 : decode b5_serveWaiting 16 = .ok (.aload_n 0, 1) := by decide +kernel
theorem d5_serveWaiting_17 : decode b5_serveWaiting 17 = .ok (.getfield 36, 3) := by decide +kernel
theorem d5_serveWaiting_20 : decode b5_serveWaiting 20 = .ok (.getfield 237, 3) := by decide +kernel
theorem d5_serveWaiting_23 : decode b5_serveWaiting 23 = .ok (.iload_n 2, 1) := by decide +kernel
theorem d5_serveWaiting_24 : decode b5_serveWaiting 24 = .ok (.iaload, 1) := by decide +kernel
theorem d5_serveWaiting_25 : decode b5_serveWaiting 25 = .ok (.istore 4, 2) := by decide +kernel
theorem d5_serveWaiting_27 : decode b5_serveWaiting 27 = .ok (.aload_n 0, 1) := by decide +kernel
theorem d5_serveWaiting_28 : decode b5_serveWaiting 28 = .ok (.getfield 36, 3) := by decide +kernel
theorem d5_serveWaiting_31 : decode b5_serveWaiting 31 = .ok (.getfield 240, 3) := by decide +kernel
theorem d5_serveWaiting_34 : decode b5_serveWaiting 34 = .ok (.iload_n 2, 1) := by decide +kernel
theorem d5_serveWaiting_35 : decode b5_serveWaiting 35 = .ok (.baload, 1) := by decide +kernel
theorem d5_serveWaiting_36 : decode b5_serveWaiting 36 = .ok (.istore 5, 2) := by decide +kernel
theorem d5_serveWaiting_38 : decode b5_serveWaiting 38 = .ok (.aload_n 0, 1) := by decide +kernel
theorem d5_serveWaiting_39 : decode b5_serveWaiting 39 = .ok (.iload 4, 2) := by decide +kernel
theorem d5_serveWaiting_41 : decode b5_serveWaiting 41 = .ok (.iload 5, 2) := by decide +kernel
theorem d5_serveWaiting_43 : decode b5_serveWaiting 43 = .ok (.aload_n 0, 1) := by decide +kernel
theorem d5_serveWaiting_44 : decode b5_serveWaiting 44 = .ok (.getfield 36, 3) := by decide +kernel
theorem d5_serveWaiting_47 : decode b5_serveWaiting 47 = .ok (.getfield 243, 3) := by decide +kernel
theorem d5_serveWaiting_50 : decode b5_serveWaiting 50 = .ok (.iload_n 2, 1) := by decide +kernel
theorem d5_serveWaiting_51 : decode b5_serveWaiting 51 = .ok (.iaload, 1) := by decide +kernel
theorem d5_serveWaiting_52 : decode b5_serveWaiting 52 = .ok (.aload_n 0, 1) := by decide +kernel
theorem d5_serveWaiting_53 : decode b5_serveWaiting 53 = .ok (.getfield 36, 3) := by decide +kernel
theorem d5_serveWaiting_56 : decode b5_serveWaiting 56 = .ok (.getfield 246, 3) := by decide +kernel
theorem d5_serveWaiting_59 : decode b5_serveWaiting 59 = .ok (.iload_n 2, 1) := by decide +kernel
theorem d5_serveWaiting_60 : decode b5_serveWaiting 60 = .ok (.iaload, 1) := by decide +kernel
theorem d5_serveWaiting_61 : decode b5_serveWaiting 61 = .ok (.invokevirtual 354, 3) := by decide +kernel
theorem d5_serveWaiting_64 : decode b5_serveWaiting 64 = .ok (.istore 6, 2) := by decide +kernel
theorem d5_serveWaiting_66 : decode b5_serveWaiting 66 = .ok (.iload 6, 2) := by decide +kernel
theorem d5_serveWaiting_68 : decode b5_serveWaiting 68 = .ok (.iconst (-1), 1) := by decide +kernel
theorem d5_serveWaiting_69 : decode b5_serveWaiting 69 = .ok (.if_icmp .ne 9, 3) := by decide +kernel
theorem d5_serveWaiting_72 : decode b5_serveWaiting 72 = .ok (.iinc 2 1, 3) := by decide +kernel
theorem d5_serveWaiting_75 : decode b5_serveWaiting 75 = .ok (.goto 25, 3) := by decide +kernel
theorem d5_serveWaiting_78 : decode b5_serveWaiting 78 = .ok (.aload_n 0, 1) := by decide +kernel
theorem d5_serveWaiting_79 : decode b5_serveWaiting 79 = .ok (.getfield 36, 3) := by decide +kernel
theorem d5_serveWaiting_82 : decode b5_serveWaiting 82 = .ok (.iload_n 2, 1) := by decide +kernel
theorem d5_serveWaiting_83 : decode b5_serveWaiting 83 = .ok (.invokevirtual 306, 3) := by decide +kernel
theorem d5_serveWaiting_86 : decode b5_serveWaiting 86 = .ok (.aload_n 0, 1) := by decide +kernel
theorem d5_serveWaiting_87 : decode b5_serveWaiting 87 = .ok (.iload 4, 2) := by decide +kernel
theorem d5_serveWaiting_89 : decode b5_serveWaiting 89 = .ok (.iload 5, 2) := by decide +kernel
theorem d5_serveWaiting_91 : decode b5_serveWaiting 91 = .ok (.iload 6, 2) := by decide +kernel
theorem d5_serveWaiting_93 : decode b5_serveWaiting 93 = .ok (.invokevirtual 287, 3) := by decide +kernel
theorem d5_serveWaiting_96 : decode b5_serveWaiting 96 = .ok (.pop, 1) := by decide +kernel
theorem d5_serveWaiting_97 : decode b5_serveWaiting 97 = .ok (.iinc 1 1, 3) := by decide +kernel
theorem d5_serveWaiting_100 : decode b5_serveWaiting 100 = .ok (.iinc 3 (-1), 3) := by decide +kernel
theorem d5_serveWaiting_103 : decode b5_serveWaiting 103 = .ok (.goto (-91), 3) := by decide +kernel
theorem d5_serveWaiting_106 : decode b5_serveWaiting 106 = .ok (.aload_n 0, 1) := by decide +kernel
theorem d5_serveWaiting_107 : decode b5_serveWaiting 107 = .ok (.getfield 36, 3) := by decide +kernel
theorem d5_serveWaiting_110 : decode b5_serveWaiting 110 = .ok (.dup, 1) := by decide +kernel
theorem d5_serveWaiting_111 : decode b5_serveWaiting 111 = .ok (.getfield 274, 3) := by decide +kernel
theorem d5_serveWaiting_114 : decode b5_serveWaiting 114 = .ok (.iload_n 1, 1) := by decide +kernel
theorem d5_serveWaiting_115 : decode b5_serveWaiting 115 = .ok (.iadd, 1) := by decide +kernel
theorem d5_serveWaiting_116 : decode b5_serveWaiting 116 = .ok (.putfield 274, 3) := by decide +kernel
theorem d5_serveWaiting_119 : decode b5_serveWaiting 119 = .ok (.iload_n 1, 1) := by decide +kernel
theorem d5_serveWaiting_120 : decode b5_serveWaiting 120 = .ok (.ireturn, 1) := by decide +kernel
abbrev b5_bookFault : ByteArray := prog_1_method_95_code
def y5_bookFault : MethodName := ⟨"ChannelSchedule", "bookFault", "(IZI)I"⟩
theorem w5_bookFault : YV y5_bookFault b5_bookFault 5 (some .int) 3 := ⟨LW_i 569 (by decide +kernel) (by decide +kernel), LW_i 12 (by decide +kernel) (by decide +kernel), LW_i 28 (by decide +kernel) (by decide +kernel), LW_i 570 (by decide +kernel) (by decide +kernel), by decide +kernel, by decide +kernel⟩
theorem d5_bookFault_0 : decode b5_bookFault 0 = .ok (.aload_n 0, 1) := by decide +kernel
theorem d5_bookFault_1 : decode b5_bookFault 1 = .ok (.iload_n 1, 1) := by decide +kernel
theorem d5_bookFault_2 : decode b5_bookFault 2 = .ok (.invokevirtual 132, 3) := by decide +kernel
theorem d5_bookFault_5 : decode b5_bookFault 5 = .ok (.ifCond .ne 5, 3) := by decide +kernel
theorem d5_bookFault_8 : decode b5_bookFault 8 = .ok (.iconst 1, 1) := by decide +kernel
theorem d5_bookFault_9 : decode b5_bookFault 9 = .ok (.ireturn, 1) := by decide +kernel
theorem d5_bookFault_10 : decode b5_bookFault 10 = .ok (.iload_n 3, 1) := by decide +kernel
theorem d5_bookFault_11 : decode b5_bookFault 11 = .ok (.iconst 0, 1) := by decide +kernel
theorem d5_bookFault_12 : decode b5_bookFault 12 = .ok (.sipush 999, 3) := by decide +kernel
theorem d5_bookFault_15 : decode b5_bookFault 15 = .ok (.invokestatic 104, 3) := by decide +kernel
theorem d5_bookFault_18 : decode b5_bookFault 18 = .ok (.ifCond .ne 5, 3) := by decide +kernel
theorem d5_bookFault_21 : decode b5_bookFault 21 = .ok (.iconst 2, 1) := by decide +kernel
theorem d5_bookFault_22 : decode b5_bookFault 22 = .ok (.ireturn, 1) := by decide +kernel
theorem d5_bookFault_23 : decode b5_bookFault 23 = .ok (.iload_n 3, 1) := by decide +kernel
theorem d5_bookFault_24 : decode b5_bookFault 24 = .ok (.aload_n 0, 1) := by decide +kernel
theorem d5_bookFault_25 : decode b5_bookFault 25 = .ok (.getfield 36, 3) := by decide +kernel
theorem d5_bookFault_28 : decode b5_bookFault 28 = .ok (.getfield 129, 3) := by decide +kernel
theorem d5_bookFault_31 : decode b5_bookFault 31 = .ok (.if_icmp .lt 35, 3) := by decide +kernel
theorem d5_bookFault_34 : decode b5_bookFault 34 = .ok (.aload_n 0, 1) := by decide +kernel
theorem d5_bookFault_35 : decode b5_bookFault 35 = .ok (.getfield 36, 3) := by decide +kernel
theorem d5_bookFault_38 : decode b5_bookFault 38 = .ok (.getfield 175, 3) := by decide +kernel
theorem d5_bookFault_41 : decode b5_bookFault 41 = .ok (.bipush 20, 2) := by decide +kernel
theorem d5_bookFault_43 : decode b5_bookFault 43 = .ok (.if_icmp .ge 23, 3) := by decide +kernel
theorem d5_bookFault_46 : decode b5_bookFault 46 = .ok (.aload_n 0, 1) := by decide +kernel
theorem d5_bookFault_47 : decode b5_bookFault 47 = .ok (.iload_n 2, 1) := by decide +kernel
theorem d5_bookFault_48 : decode b5_bookFault 48 = .ok (.iload_n 3, 1) := by decide +kernel
theorem d5_bookFault_49 : decode b5_bookFault 49 = .ok (.aload_n 0, 1) := by decide +kernel
theorem d5_bookFault_50 : decode b5_bookFault 50 = .ok (.iload_n 1, 1) := by decide +kernel
theorem d5_bookFault_51 : decode b5_bookFault 51 = .ok (.invokevirtual 139, 3) := by decide +kernel
theorem d5_bookFault_54 : decode b5_bookFault 54 = .ok (.iconst (-1), 1) := by decide +kernel
theorem d5_bookFault_55 : decode b5_bookFault 55 = .ok (.invokevirtual 209, 3) := by decide +kernel
theorem d5_bookFault_58 : decode b5_bookFault 58 = .ok (.iconst (-1), 1) := by decide +kernel
theorem d5_bookFault_59 : decode b5_bookFault 59 = .ok (.if_icmp .ne 7, 3) := by decide +kernel
theorem d5_bookFault_62 : decode b5_bookFault 62 = .ok (.iconst 1, 1) := by decide +kernel
theorem d5_bookFault_63 : decode b5_bookFault 63 = .ok (.goto 4, 3) := by decide +kernel
theorem d5_bookFault_66 : decode b5_bookFault 66 = .ok (.iconst 0, 1) := by decide +kernel
theorem d5_bookFault_67 : decode b5_bookFault 67 = .ok (.istore 4, 2) := by decide +kernel
theorem d5_bookFault_69 : decode b5_bookFault 69 = .ok (.iload 4, 2) := by decide +kernel
theorem d5_bookFault_71 : decode b5_bookFault 71 = .ok (.ifCond .eq 7, 3) := by decide +kernel
theorem d5_bookFault_74 : decode b5_bookFault 74 = .ok (.iconst 0, 1) := by decide +kernel
theorem d5_bookFault_75 : decode b5_bookFault 75 = .ok (.goto 4, 3) := by decide +kernel
theorem d5_bookFault_78 : decode b5_bookFault 78 = .ok (.iconst 3, 1) := by decide +kernel
theorem d5_bookFault_79 : decode b5_bookFault 79 = .ok (.ireturn, 1) := by decide +kernel
abbrev b5_bookNow : ByteArray := prog_1_method_96_code
def y5_bookNow : MethodName := ⟨"ChannelSchedule", "bookNow", "(IZI)I"⟩
theorem w5_bookNow : YV y5_bookNow b5_bookNow 5 (some .int) 3 := ⟨LW_i 614 (by decide +kernel) (by decide +kernel), LW_i 15 (by decide +kernel) (by decide +kernel), LW_i 28 (by decide +kernel) (by decide +kernel), LW_i 615 (by decide +kernel) (by decide +kernel), by decide +kernel, by decide +kernel⟩
theorem d5_bookNow_0 : decode b5_bookNow 0 = .ok (.iload_n 3, 1) := by decide +kernel
theorem d5_bookNow_1 : decode b5_bookNow 1 = .ok (.aload_n 0, 1) := by decide +kernel
theorem d5_bookNow_2 : decode b5_bookNow 2 = .ok (.iload_n 1, 1) := by decide +kernel
theorem d5_bookNow_3 : decode b5_bookNow 3 = .ok (.invokevirtual 139, 3) := by decide +kernel
theorem d5_bookNow_6 : decode b5_bookNow 6 = .ok (.iadd, 1) := by decide +kernel
theorem d5_bookNow_7 : decode b5_bookNow 7 = .ok (.istore 4, 2) := by decide +kernel
theorem d5_bookNow_9 : decode b5_bookNow 9 = .ok (.aload_n 0, 1) := by decide +kernel
theorem d5_bookNow_10 : decode b5_bookNow 10 = .ok (.getfield 36, 3) := by decide +kernel
theorem d5_bookNow_13 : decode b5_bookNow 13 = .ok (.iload_n 1, 1) := by decide +kernel
theorem d5_bookNow_14 : decode b5_bookNow 14 = .ok (.iload_n 2, 1) := by decide +kernel
theorem d5_bookNow_15 : decode b5_bookNow 15 = .ok (.iload_n 3, 1) := by decide +kernel
theorem d5_bookNow_16 : decode b5_bookNow 16 = .ok (.iload 4, 2) := by decide +kernel
theorem d5_bookNow_18 : decode b5_bookNow 18 = .ok (.invokevirtual 366, 3) := by decide +kernel
theorem d5_bookNow_21 : decode b5_bookNow 21 = .ok (.aload_n 0, 1) := by decide +kernel
theorem d5_bookNow_22 : decode b5_bookNow 22 = .ok (.getfield 36, 3) := by decide +kernel
theorem d5_bookNow_25 : decode b5_bookNow 25 = .ok (.dup, 1) := by decide +kernel
theorem d5_bookNow_26 : decode b5_bookNow 26 = .ok (.getfield 268, 3) := by decide +kernel
theorem d5_bookNow_29 : decode b5_bookNow 29 = .ok (.iconst 1, 1) := by decide +kernel
theorem d5_bookNow_30 : decode b5_bookNow 30 = .ok (.iadd, 1) := by decide +kernel
theorem d5_bookNow_31 : decode b5_bookNow 31 = .ok (.putfield 268, 3) := by decide +kernel
theorem d5_bookNow_34 : decode b5_bookNow 34 = .ok (.iload 4, 2) := by decide +kernel
theorem d5_bookNow_36 : decode b5_bookNow 36 = .ok (.ireturn, 1) := by decide +kernel
abbrev b5_requestFault : ByteArray := prog_1_method_97_code
def y5_requestFault : MethodName := ⟨"ChannelSchedule", "requestFault", "(IZII)I"⟩
theorem w5_requestFault : YV y5_requestFault b5_requestFault 6 (some .int) 4 := ⟨LW_i 626 (by decide +kernel) (by decide +kernel), LW_i 16 (by decide +kernel) (by decide +kernel), LW_i 28 (by decide +kernel) (by decide +kernel), LW_i 627 (by decide +kernel) (by decide +kernel), by decide +kernel, by decide +kernel⟩
theorem d5_requestFault_0 : decode b5_requestFault 0 = .ok (.aload_n 0, 1) := by decide +kernel
theorem d5_requestFault_1 : decode b5_requestFault 1 = .ok (.iload_n 1, 1) := by decide +kernel
theorem d5_requestFault_2 : decode b5_requestFault 2 = .ok (.invokevirtual 132, 3) := by decide +kernel
theorem d5_requestFault_5 : decode b5_requestFault 5 = .ok (.ifCond .ne 5, 3) := by decide +kernel
theorem d5_requestFault_8 : decode b5_requestFault 8 = .ok (.iconst 1, 1) := by decide +kernel
theorem d5_requestFault_9 : decode b5_requestFault 9 = .ok (.ireturn, 1) := by decide +kernel
theorem d5_requestFault_10 : decode b5_requestFault 10 = .ok (.iload_n 3, 1) := by decide +kernel
theorem d5_requestFault_11 : decode b5_requestFault 11 = .ok (.iconst 0, 1) := by decide +kernel
theorem d5_requestFault_12 : decode b5_requestFault 12 = .ok (.sipush 999, 3) := by decide +kernel
theorem d5_requestFault_15 : decode b5_requestFault 15 = .ok (.invokestatic 104, 3) := by decide +kernel
theorem d5_requestFault_18 : decode b5_requestFault 18 = .ok (.ifCond .eq 15, 3) := by decide +kernel
theorem d5_requestFault_21 : decode b5_requestFault 21 = .ok (.iload 4, 2) := by decide +kernel
theorem d5_requestFault_23 : decode b5_requestFault 23 = .ok (.iload_n 3, 1) := by decide +kernel
theorem d5_requestFault_24 : decode b5_requestFault 24 = .ok (.sipush 999, 3) := by decide +kernel
theorem d5_requestFault_27 : decode b5_requestFault 27 = .ok (.invokestatic 104, 3) := by decide +kernel
theorem d5_requestFault_30 : decode b5_requestFault 30 = .ok (.ifCond .ne 5, 3) := by decide +kernel
theorem d5_requestFault_33 : decode b5_requestFault 33 = .ok (.iconst 2, 1) := by decide +kernel
theorem d5_requestFault_34 : decode b5_requestFault 34 = .ok (.ireturn, 1) := by decide +kernel
theorem d5_requestFault_35 : decode b5_requestFault 35 = .ok (.aload_n 0, 1) := by decide +kernel
theorem d5_requestFault_36 : decode b5_requestFault 36 = .ok (.getfield 36, 3) := by decide +kernel
theorem d5_requestFault_39 : decode b5_requestFault 39 = .ok (.getfield 231, 3) := by decide +kernel
theorem d5_requestFault_42 : decode b5_requestFault 42 = .ok (.bipush 8, 2) := by decide +kernel
theorem d5_requestFault_44 : decode b5_requestFault 44 = .ok (.if_icmp .lt 16, 3) := by decide +kernel
theorem d5_requestFault_47 : decode b5_requestFault 47 = .ok (.aload_n 0, 1) := by decide +kernel
theorem d5_requestFault_48 : decode b5_requestFault 48 = .ok (.iload_n 1, 1) := by decide +kernel
theorem d5_requestFault_49 : decode b5_requestFault 49 = .ok (.iload_n 2, 1) := by decide +kernel
theorem d5_requestFault_50 : decode b5_requestFault 50 = .ok (.iload_n 3, 1) := by decide +kernel
theorem d5_requestFault_51 : decode b5_requestFault 51 = .ok (.iload 4, 2) := by decide +kernel
theorem d5_requestFault_53 : decode b5_requestFault 53 = .ok (.invokevirtual 354, 3) := by decide +kernel
theorem d5_requestFault_56 : decode b5_requestFault 56 = .ok (.iconst (-1), 1) := by decide +kernel
theorem d5_requestFault_57 : decode b5_requestFault 57 = .ok (.if_icmp .eq 7, 3) := by decide +kernel
theorem d5_requestFault_60 : decode b5_requestFault 60 = .ok (.iconst 1, 1) := by decide +kernel
theorem d5_requestFault_61 : decode b5_requestFault 61 = .ok (.goto 4, 3) := by decide +kernel
theorem d5_requestFault_64 : decode b5_requestFault 64 = .ok (.iconst 0, 1) := by decide +kernel
theorem d5_requestFault_65 : decode b5_requestFault 65 = .ok (.istore 5, 2) := by decide +kernel
theorem d5_requestFault_67 : decode b5_requestFault 67 = .ok (.iload 5, 2) := by decide +kernel
theorem d5_requestFault_69 : decode b5_requestFault 69 = .ok (.ifCond .eq 7, 3) := by decide +kernel
theorem d5_requestFault_72 : decode b5_requestFault 72 = .ok (.iconst 0, 1) := by decide +kernel
theorem d5_requestFault_73 : decode b5_requestFault 73 = .ok (.goto 4, 3) := by decide +kernel
theorem d5_requestFault_76 : decode b5_requestFault 76 = .ok (.iconst 3, 1) := by decide +kernel
theorem d5_requestFault_77 : decode b5_requestFault 77 = .ok (.ireturn, 1) := by decide +kernel
abbrev b5_requestNow : ByteArray := prog_1_method_98_code
def y5_requestNow : MethodName := ⟨"ChannelSchedule", "requestNow", "(IZII)I"⟩
theorem w5_requestNow : YV y5_requestNow b5_requestNow 6 (some .int) 4 := ⟨LW_i 638 (by decide +kernel) (by decide +kernel), LW_i 19 (by decide +kernel) (by decide +kernel), LW_i 28 (by decide +kernel) (by decide +kernel), LW_i 639 (by decide +kernel) (by decide +kernel), by decide +kernel, by decide +kernel⟩
theorem d5_requestNow_0 : decode b5_requestNow 0 = .ok (.aload_n 0, 1) := by decide +kernel
theorem d5_requestNow_1 : decode b5_requestNow 1 = .ok (.iload_n 1, 1) := by decide +kernel
theorem d5_requestNow_2 : decode b5_requestNow 2 = .ok (.iload_n 2, 1) := by decide +kernel
theorem d5_requestNow_3 : decode b5_requestNow 3 = .ok (.iload_n 3, 1) := by decide +kernel
theorem d5_requestNow_4 : decode b5_requestNow 4 = .ok (.iload 4, 2) := by decide +kernel
theorem d5_requestNow_6 : decode b5_requestNow 6 = .ok (.invokevirtual 354, 3) := by decide +kernel
theorem d5_requestNow_9 : decode b5_requestNow 9 = .ok (.istore 5, 2) := by decide +kernel
theorem d5_requestNow_11 : decode b5_requestNow 11 = .ok (.iload 5, 2) := by decide +kernel
theorem d5_requestNow_13 : decode b5_requestNow 13 = .ok (.iconst (-1), 1) := by decide +kernel
theorem d5_requestNow_14 : decode b5_requestNow 14 = .ok (.if_icmp .ne 18, 3) := by decide +kernel
theorem d5_requestNow_17 : decode b5_requestNow 17 = .ok (.aload_n 0, 1) := by decide +kernel
theorem d5_requestNow_18 : decode b5_requestNow 18 = .ok (.getfield 36, 3) := by decide +kernel
theorem d5_requestNow_21 : decode b5_requestNow 21 = .ok (.iload_n 1, 1) := by decide +kernel
theorem d5_requestNow_22 : decode b5_requestNow 22 = .ok (.iload_n 2, 1) := by decide +kernel
theorem d5_requestNow_23 : decode b5_requestNow 23 = .ok (.iload_n 3, 1) := by decide +kernel
theorem d5_requestNow_24 : decode b5_requestNow 24 = .ok (.iload 4, 2) := by decide +kernel
theorem d5_requestNow_26 : decode b5_requestNow 26 = .ok (.invokevirtual 370, 3) := by decide +kernel
theorem d5_requestNow_29 : decode b5_requestNow 29 = .ok (.goto 12, 3) := by decide +kernel
theorem d5_requestNow_32 : decode b5_requestNow 32 = .ok (.aload_n 0, 1) := by decide +kernel
theorem d5_requestNow_33 : decode b5_requestNow 33 = .ok (.iload_n 1, 1) := by decide +kernel
theorem d5_requestNow_34 : decode b5_requestNow 34 = .ok (.iload_n 2, 1) := by decide +kernel
theorem d5_requestNow_35 : decode b5_requestNow 35 = .ok (.iload 5, 2) := by decide +kernel
theorem d5_requestNow_37 : decode b5_requestNow 37 = .ok (.invokevirtual 287, 3) := by decide +kernel
theorem d5_requestNow_40 : decode b5_requestNow 40 = .ok (.pop, 1) := by decide +kernel
theorem d5_requestNow_41 : decode b5_requestNow 41 = .ok (.iload 5, 2) := by decide +kernel
theorem d5_requestNow_43 : decode b5_requestNow 43 = .ok (.ireturn, 1) := by decide +kernel
abbrev b5_cancelFault : ByteArray := prog_1_method_99_code
def y5_cancelFault : MethodName := ⟨"ChannelSchedule", "cancelFault", "(I)I"⟩
theorem w5_cancelFault : YV y5_cancelFault b5_cancelFault 2 (some .int) 1 := ⟨LW_i 650 (by decide +kernel) (by decide +kernel), LW_i 20 (by decide +kernel) (by decide +kernel), LW_i 28 (by decide +kernel) (by decide +kernel), LW_i 651 (by decide +kernel) (by decide +kernel), by decide +kernel, by decide +kernel⟩
theorem d5_cancelFault_0 : decode b5_cancelFault 0 = .ok (.aload_n 0, 1) := by decide +kernel
theorem d5_cancelFault_1 : decode b5_cancelFault 1 = .ok (.iload_n 1, 1) := by decide +kernel
theorem d5_cancelFault_2 : decode b5_cancelFault 2 = .ok (.invokevirtual 178, 3) := by decide +kernel
theorem d5_cancelFault_5 : decode b5_cancelFault 5 = .ok (.ifCond .ne 5, 3) := by decide +kernel
theorem d5_cancelFault_8 : decode b5_cancelFault 8 = .ok (.iconst 1, 1) := by decide +kernel
theorem d5_cancelFault_9 : decode b5_cancelFault 9 = .ok (.ireturn, 1) := by decide +kernel
theorem d5_cancelFault_10 : decode b5_cancelFault 10 = .ok (.aload_n 0, 1) := by decide +kernel
theorem d5_cancelFault_11 : decode b5_cancelFault 11 = .ok (.getfield 36, 3) := by decide +kernel
theorem d5_cancelFault_14 : decode b5_cancelFault 14 = .ok (.getfield 183, 3) := by decide +kernel
theorem d5_cancelFault_17 : decode b5_cancelFault 17 = .ok (.iload_n 1, 1) := by decide +kernel
theorem d5_cancelFault_18 : decode b5_cancelFault 18 = .ok (.iaload, 1) := by decide +kernel
theorem d5_cancelFault_19 : decode b5_cancelFault 19 = .ok (.aload_n 0, 1) := by decide +kernel
theorem d5_cancelFault_20 : decode b5_cancelFault 20 = .ok (.getfield 36, 3) := by decide +kernel
theorem d5_cancelFault_23 : decode b5_cancelFault 23 = .ok (.getfield 129, 3) := by decide +kernel
theorem d5_cancelFault_26 : decode b5_cancelFault 26 = .ok (.if_icmp .gt 7, 3) := by decide +kernel
theorem d5_cancelFault_29 : decode b5_cancelFault 29 = .ok (.iconst 3, 1) := by decide +kernel
theorem d5_cancelFault_30 : decode b5_cancelFault 30 = .ok (.goto 4, 3) := by decide +kernel
theorem d5_cancelFault_33 : decode b5_cancelFault 33 = .ok (.iconst 0, 1) := by decide +kernel
theorem d5_cancelFault_34 : decode b5_cancelFault 34 = .ok (.ireturn, 1) := by decide +kernel
abbrev b5_cancelNow : ByteArray := prog_1_method_100_code
def y5_cancelNow : MethodName := ⟨"ChannelSchedule", "cancelNow", "(I)I"⟩
theorem w5_cancelNow : YV y5_cancelNow b5_cancelNow 2 (some .int) 1 := ⟨LW_i 654 (by decide +kernel) (by decide +kernel), LW_i 21 (by decide +kernel) (by decide +kernel), LW_i 28 (by decide +kernel) (by decide +kernel), LW_i 655 (by decide +kernel) (by decide +kernel), by decide +kernel, by decide +kernel⟩
theorem d5_cancelNow_0 : decode b5_cancelNow 0 = .ok (.aload_n 0, 1) := by decide +kernel
theorem d5_cancelNow_1 : decode b5_cancelNow 1 = .ok (.getfield 36, 3) := by decide +kernel
theorem d5_cancelNow_4 : decode b5_cancelNow 4 = .ok (.iload_n 1, 1) := by decide +kernel
theorem d5_cancelNow_5 : decode b5_cancelNow 5 = .ok (.invokevirtual 373, 3) := by decide +kernel
theorem d5_cancelNow_8 : decode b5_cancelNow 8 = .ok (.aload_n 0, 1) := by decide +kernel
theorem d5_cancelNow_9 : decode b5_cancelNow 9 = .ok (.getfield 36, 3) := by decide +kernel
theorem d5_cancelNow_12 : decode b5_cancelNow 12 = .ok (.dup, 1) := by decide +kernel
theorem d5_cancelNow_13 : decode b5_cancelNow 13 = .ok (.getfield 271, 3) := by decide +kernel
theorem d5_cancelNow_16 : decode b5_cancelNow 16 = .ok (.iconst 1, 1) := by decide +kernel
theorem d5_cancelNow_17 : decode b5_cancelNow 17 = .ok (.iadd, 1) := by decide +kernel
theorem d5_cancelNow_18 : decode b5_cancelNow 18 = .ok (.putfield 271, 3) := by decide +kernel
theorem d5_cancelNow_21 : decode b5_cancelNow 21 = .ok (.aload_n 0, 1) := by decide +kernel
theorem d5_cancelNow_22 : decode b5_cancelNow 22 = .ok (.invokevirtual 376, 3) := by decide +kernel
theorem d5_cancelNow_25 : decode b5_cancelNow 25 = .ok (.ireturn, 1) := by decide +kernel
abbrev b5_freezeNow : ByteArray := prog_1_method_103_code
def y5_freezeNow : MethodName := ⟨"ChannelSchedule", "freezeNow", "(I)I"⟩
theorem w5_freezeNow : YV y5_freezeNow b5_freezeNow 2 (some .int) 1 := ⟨LW_i 1087 (by decide +kernel) (by decide +kernel), LW_i 24 (by decide +kernel) (by decide +kernel), LW_i 28 (by decide +kernel) (by decide +kernel), LW_i 1088 (by decide +kernel) (by decide +kernel), by decide +kernel, by decide +kernel⟩
theorem d5_freezeNow_0 : decode b5_freezeNow 0 = .ok (.aload_n 0, 1) := by decide +kernel
theorem d5_freezeNow_1 : decode b5_freezeNow 1 = .ok (.getfield 36, 3) := by decide +kernel
theorem d5_freezeNow_4 : decode b5_freezeNow 4 = .ok (.iload_n 1, 1) := by decide +kernel
theorem d5_freezeNow_5 : decode b5_freezeNow 5 = .ok (.putfield 126, 3) := by decide +kernel
theorem d5_freezeNow_8 : decode b5_freezeNow 8 = .ok (.aload_n 0, 1) := by decide +kernel
theorem d5_freezeNow_9 : decode b5_freezeNow 9 = .ok (.invokevirtual 376, 3) := by decide +kernel
theorem d5_freezeNow_12 : decode b5_freezeNow 12 = .ok (.ireturn, 1) := by decide +kernel
abbrev b5_advanceFault : ByteArray := prog_1_method_104_code
def y5_advanceFault : MethodName := ⟨"ChannelSchedule", "advanceFault", "(I)I"⟩
theorem w5_advanceFault : YV y5_advanceFault b5_advanceFault 2 (some .int) 1 := ⟨LW_i 1095 (by decide +kernel) (by decide +kernel), LW_i 25 (by decide +kernel) (by decide +kernel), LW_i 28 (by decide +kernel) (by decide +kernel), LW_i 1096 (by decide +kernel) (by decide +kernel), by decide +kernel, by decide +kernel⟩
theorem d5_advanceFault_0 : decode b5_advanceFault 0 = .ok (.iload_n 1, 1) := by decide +kernel
theorem d5_advanceFault_1 : decode b5_advanceFault 1 = .ok (.iconst 1, 1) := by decide +kernel
theorem d5_advanceFault_2 : decode b5_advanceFault 2 = .ok (.sipush 500, 3) := by decide +kernel
theorem d5_advanceFault_5 : decode b5_advanceFault 5 = .ok (.invokestatic 104, 3) := by decide +kernel
theorem d5_advanceFault_8 : decode b5_advanceFault 8 = .ok (.ifCond .ne 5, 3) := by decide +kernel
theorem d5_advanceFault_11 : decode b5_advanceFault 11 = .ok (.iconst 2, 1) := by decide +kernel
theorem d5_advanceFault_12 : decode b5_advanceFault 12 = .ok (.ireturn, 1) := by decide +kernel
theorem d5_advanceFault_13 : decode b5_advanceFault 13 = .ok (.aload_n 0, 1) := by decide +kernel
theorem d5_advanceFault_14 : decode b5_advanceFault 14 = .ok (.getfield 36, 3) := by decide +kernel
theorem d5_advanceFault_17 : decode b5_advanceFault 17 = .ok (.getfield 129, 3) := by decide +kernel
theorem d5_advanceFault_20 : decode b5_advanceFault 20 = .ok (.iload_n 1, 1) := by decide +kernel
theorem d5_advanceFault_21 : decode b5_advanceFault 21 = .ok (.iadd, 1) := by decide +kernel
theorem d5_advanceFault_22 : decode b5_advanceFault 22 = .ok (.sipush 1200, 3) := by decide +kernel
theorem d5_advanceFault_25 : decode b5_advanceFault 25 = .ok (.if_icmp .le 7, 3) := by decide +kernel
theorem d5_advanceFault_28 : decode b5_advanceFault 28 = .ok (.iconst 3, 1) := by decide +kernel
theorem d5_advanceFault_29 : decode b5_advanceFault 29 = .ok (.goto 4, 3) := by decide +kernel
theorem d5_advanceFault_32 : decode b5_advanceFault 32 = .ok (.iconst 0, 1) := by decide +kernel
theorem d5_advanceFault_33 : decode b5_advanceFault 33 = .ok (.ireturn, 1) := by decide +kernel
abbrev b5_advanceNow : ByteArray := prog_1_method_105_code
def y5_advanceNow : MethodName := ⟨"ChannelSchedule", "advanceNow", "(I)I"⟩
theorem w5_advanceNow : YV y5_advanceNow b5_advanceNow 5 (some .int) 1 := ⟨LW_i 1099 (by decide +kernel) (by decide +kernel), LW_i 26 (by decide +kernel) (by decide +kernel), LW_i 28 (by decide +kernel) (by decide +kernel), LW_i 1100 (by decide +kernel) (by decide +kernel), by decide +kernel, by decide +kernel⟩
theorem d5_advanceNow_0 : decode b5_advanceNow 0 = .ok (.aload_n 0, 1) := by decide +kernel
theorem d5_advanceNow_1 : decode b5_advanceNow 1 = .ok (.getfield 36, 3) := by decide +kernel
theorem d5_advanceNow_4 : decode b5_advanceNow 4 = .ok (.getfield 129, 3) := by decide +kernel
theorem d5_advanceNow_7 : decode b5_advanceNow 7 = .ok (.istore_n 2, 1) := by decide +kernel
theorem d5_advanceNow_8 : decode b5_advanceNow 8 = .ok (.aload_n 0, 1) := by decide +kernel
theorem d5_advanceNow_9 : decode b5_advanceNow 9 = .ok (.getfield 36, 3) := by decide +kernel
theorem d5_advanceNow_12 : decode b5_advanceNow 12 = .ok (.dup, 1) := by decide +kernel
theorem d5_advanceNow_13 : decode b5_advanceNow 13 = .ok (.getfield 129, 3) := by decide +kernel
theorem d5_advanceNow_16 : decode b5_advanceNow 16 = .ok (.iload_n 1, 1) := by decide +kernel
theorem d5_advanceNow_17 : decode b5_advanceNow 17 = .ok (.iadd, 1) := by decide +kernel
theorem d5_advanceNow_18 : decode b5_advanceNow 18 = .ok (.putfield 129, 3) := by decide +kernel
theorem d5_advanceNow_21 : decode b5_advanceNow 21 = .ok (.iconst 0, 1) := by decide +kernel
theorem d5_advanceNow_22 : decode b5_advanceNow 22 = .ok (.istore_n 3, 1) := by decide +kernel
theorem d5_advanceNow_23 : decode b5_advanceNow 23 = .ok (.iconst 0, 1) := by decide +kernel
theorem d5_advanceNow_24 : decode b5_advanceNow 24 = .ok (.istore 4, 2) := by decide +kernel
theorem d5_advanceNow_26 : decode b5_advanceNow 26 = .ok (.iload 4, 2) := by decide +kernel
theorem d5_advanceNow_28 : decode b5_advanceNow 28 = .ok (.aload_n 0, 1) := by decide +kernel
theorem d5_advanceNow_29 : decode b5_advanceNow 29 = .ok (.getfield 36, 3) := by decide +kernel
theorem d5_advanceNow_32 : decode b5_advanceNow 32 = .ok (.getfield 175, 3) := by decide +kernel
theorem d5_advanceNow_35 : decode b5_advanceNow 35 = .ok (.if_icmp .ge 46, 3) := by decide +kernel
theorem d5_advanceNow_38 : decode b5_advanceNow 38 = .ok (.aload_n 0, 1) := by decide +kernel
theorem d5_advanceNow_39 : decode b5_advanceNow 39 = .ok (.getfield 36, 3) := by decide +kernel
theorem d5_advanceNow_42 : decode b5_advanceNow 42 = .ok (.getfield 186, 3) := by decide +kernel
theorem d5_advanceNow_45 : decode b5_advanceNow 45 = .ok (.iload 4, 2) := by decide +kernel
theorem d5_advanceNow_47 : decode b5_advanceNow 47 = .ok (.iaload, 1) := by decide +kernel
theorem d5_advanceNow_48 : decode b5_advanceNow 48 = .ok (.iload_n 2, 1) := by decide +kernel
theorem d5_advanceNow_49 : decode b5_advanceNow 49 = .ok (.if_icmp .le 26, 3) := by decide +kernel
theorem d5_advanceNow_52 : decode b5_advanceNow 52 = .ok (.aload_n 0, 1) := by decide +kernel
theorem d5_advanceNow_53 : decode b5_advanceNow 53 = .ok (.getfield 36, 3) := by decide +kernel
theorem d5_advanceNow_56 : decode b5_advanceNow 56 = .ok (.getfield 186, 3) := by decide +kernel
theorem d5_advanceNow_59 : decode b5_advanceNow 59 = .ok (.iload 4, 2) := by decide +kernel
theorem d5_advanceNow_61 : decode b5_advanceNow 61 = .ok (.iaload, 1) := by decide +kernel
theorem d5_advanceNow_62 : decode b5_advanceNow 62 = .ok (.aload_n 0, 1) := by decide +kernel
theorem d5_advanceNow_63 : decode b5_advanceNow 63 = .ok (.getfield 36, 3) := by decide +kernel
theorem d5_advanceNow_66 : decode b5_advanceNow 66 = .ok (.getfield 129, 3) := by decide +kernel
theorem d5_advanceNow_69 : decode b5_advanceNow 69 = .ok (.if_icmp .gt 6, 3) := by decide +kernel
theorem d5_advanceNow_72 : decode b5_advanceNow 72 = .ok (.iinc 3 1, 3) := by decide +kernel
theorem d5_advanceNow_75 : decode b5_advanceNow 75 = .ok (.iinc 4 1, 3) := by decide +kernel
theorem d5_advanceNow_78 : decode b5_advanceNow 78 = .ok (.goto (-52), 3) := by decide +kernel
theorem d5_advanceNow_81 : decode b5_advanceNow 81 = .ok (.iload_n 3, 1) := by decide +kernel
theorem d5_advanceNow_82 : decode b5_advanceNow 82 = .ok (.ireturn, 1) := by decide +kernel
abbrev b5_remember : ByteArray := prog_1_method_106_code
def y5_remember : MethodName := ⟨"ChannelSchedule", "remember", "()V"⟩
theorem w5_remember : YV y5_remember b5_remember 1 none 0 := ⟨LW_i 598 (by decide +kernel) (by decide +kernel), LW_i 14 (by decide +kernel) (by decide +kernel), LW_i 28 (by decide +kernel) (by decide +kernel), LW_i 599 (by decide +kernel) (by decide +kernel), by decide +kernel, by decide +kernel⟩
theorem d5_remember_0 : decode b5_remember 0 = .ok (.aload_n 0, 1) := by decide +kernel
theorem d5_remember_1 : decode b5_remember 1 = .ok (.aload_n 0, 1) := by decide +kernel
theorem d5_remember_2 : decode b5_remember 2 = .ok (.getfield 47, 3) := by decide +kernel
theorem d5_remember_5 : decode b5_remember 5 = .ok (.iconst 5, 1) := by decide +kernel
theorem d5_remember_6 : decode b5_remember 6 = .ok (.if_icmp .ne 7, 3) := by decide +kernel
theorem d5_remember_9 : decode b5_remember 9 = .ok (.iconst 0, 1) := by decide +kernel
theorem d5_remember_10 : decode b5_remember 10 = .ok (.goto 9, 3) := by decide +kernel
theorem d5_remember_13 : decode b5_remember 13 = .ok (.aload_n 0, 1) := by decide +kernel
theorem d5_remember_14 : decode b5_remember 14 = .ok (.getfield 47, 3) := by decide +kernel
theorem d5_remember_17 : decode b5_remember 17 = .ok (.iconst 1, 1) := by decide +kernel
theorem d5_remember_18 : decode b5_remember 18 = .ok (.iadd, 1) := by decide +kernel
theorem d5_remember_19 : decode b5_remember 19 = .ok (.putfield 47, 3) := by decide +kernel
theorem d5_remember_22 : decode b5_remember 22 = .ok (.aload_n 0, 1) := by decide +kernel
theorem d5_remember_23 : decode b5_remember 23 = .ok (.getfield 43, 3) := by decide +kernel
theorem d5_remember_26 : decode b5_remember 26 = .ok (.aload_n 0, 1) := by decide +kernel
theorem d5_remember_27 : decode b5_remember 27 = .ok (.getfield 47, 3) := by decide +kernel
theorem d5_remember_30 : decode b5_remember 30 = .ok (.aaload, 1) := by decide +kernel
theorem d5_remember_31 : decode b5_remember 31 = .ok (.aload_n 0, 1) := by decide +kernel
theorem d5_remember_32 : decode b5_remember 32 = .ok (.getfield 36, 3) := by decide +kernel
theorem d5_remember_35 : decode b5_remember 35 = .ok (.invokevirtual 261, 3) := by decide +kernel
theorem d5_remember_38 : decode b5_remember 38 = .ok (.aload_n 0, 1) := by decide +kernel
theorem d5_remember_39 : decode b5_remember 39 = .ok (.getfield 51, 3) := by decide +kernel
theorem d5_remember_42 : decode b5_remember 42 = .ok (.bipush 6, 2) := by decide +kernel
theorem d5_remember_44 : decode b5_remember 44 = .ok (.if_icmp .ge 13, 3) := by decide +kernel
theorem d5_remember_47 : decode b5_remember 47 = .ok (.aload_n 0, 1) := by decide +kernel
theorem d5_remember_48 : decode b5_remember 48 = .ok (.dup, 1) := by decide +kernel
theorem d5_remember_49 : decode b5_remember 49 = .ok (.getfield 51, 3) := by decide +kernel
theorem d5_remember_52 : decode b5_remember 52 = .ok (.iconst 1, 1) := by decide +kernel
theorem d5_remember_53 : decode b5_remember 53 = .ok (.iadd, 1) := by decide +kernel
theorem d5_remember_54 : decode b5_remember 54 = .ok (.putfield 51, 3) := by decide +kernel
theorem d5_remember_57 : decode b5_remember 57 = .ok (.return_, 1) := by decide +kernel
abbrev b5_readSetup : ByteArray := prog_1_method_107_code
def y5_readSetup : MethodName := ⟨"ChannelSchedule", "readSetup", "()Z"⟩
theorem w5_readSetup : YV y5_readSetup b5_readSetup 2 (some .boolean) 0 := ⟨LW_i 302 (by decide +kernel) (by decide +kernel), LW_i 0 (by decide +kernel) (by decide +kernel), LW_i 28 (by decide +kernel) (by decide +kernel), LW_i 303 (by decide +kernel) (by decide +kernel), by decide +kernel, by decide +kernel⟩
theorem d5_readSetup_0 : decode b5_readSetup 0 = .ok (.aload_n 0, 1) := by decide +kernel
theorem d5_readSetup_1 : decode b5_readSetup 1 = .ok (.getfield 10, 3) := by decide +kernel
theorem d5_readSetup_4 : decode b5_readSetup 4 = .ok (.invokevirtual 379, 3) := by decide +kernel
theorem d5_readSetup_7 : decode b5_readSetup 7 = .ok (.aload_n 0, 1) := by decide +kernel
theorem d5_readSetup_8 : decode b5_readSetup 8 = .ok (.getfield 30, 3) := by decide +kernel
theorem d5_readSetup_11 : decode b5_readSetup 11 = .ok (.iconst 0, 1) := by decide +kernel
theorem d5_readSetup_12 : decode b5_readSetup 12 = .ok (.putfield 111, 3) := by decide +kernel
theorem d5_readSetup_15 : decode b5_readSetup 15 = .ok (.aload_n 0, 1) := by decide +kernel
theorem d5_readSetup_16 : decode b5_readSetup 16 = .ok (.invokevirtual 382, 3) := by decide +kernel
theorem d5_readSetup_19 : decode b5_readSetup 19 = .ok (.ifCond .ne 5, 3) := by decide +kernel
theorem d5_readSetup_22 : decode b5_readSetup 22 = .ok (.iconst 0, 1) := by decide +kernel
theorem d5_readSetup_23 : decode b5_readSetup 23 = .ok (.ireturn, 1) := by decide +kernel
theorem d5_readSetup_24 : decode b5_readSetup 24 = .ok (.iconst 0, 1) := by decide +kernel
theorem d5_readSetup_25 : decode b5_readSetup 25 = .ok (.istore_n 1, 1) := by decide +kernel
theorem d5_readSetup_26 : decode b5_readSetup 26 = .ok (.iload_n 1, 1) := by decide +kernel
theorem d5_readSetup_27 : decode b5_readSetup 27 = .ok (.bipush 10, 2) := by decide +kernel
theorem d5_readSetup_29 : decode b5_readSetup 29 = .ok (.if_icmp .gt 34, 3) := by decide +kernel
theorem d5_readSetup_32 : decode b5_readSetup 32 = .ok (.iload_n 1, 1) := by decide +kernel
theorem d5_readSetup_33 : decode b5_readSetup 33 = .ok (.ifCond .le 15, 3) := by decide +kernel
theorem d5_readSetup_36 : decode b5_readSetup 36 = .ok (.aload_n 0, 1) := by decide +kernel
theorem d5_readSetup_37 : decode b5_readSetup 37 = .ok (.getfield 10, 3) := by decide +kernel
theorem d5_readSetup_40 : decode b5_readSetup 40 = .ok (.getfield 385, 3) := by decide +kernel
theorem d5_readSetup_43 : decode b5_readSetup 43 = .ok (.ifCond .ne 5, 3) := by decide +kernel
theorem d5_readSetup_46 : decode b5_readSetup 46 = .ok (.iconst 1, 1) := by decide +kernel
theorem d5_readSetup_47 : decode b5_readSetup 47 = .ok (.ireturn, 1) := by decide +kernel
theorem d5_readSetup_48 : decode b5_readSetup 48 = .ok (.aload_n 0, 1) := by decide +kernel
theorem d5_readSetup_49 : decode b5_readSetup 49 = .ok (.invokevirtual 388, 3) := by decide +kernel
theorem d5_readSetup_52 : decode b5_readSetup 52 = .ok (.ifCond .ne 5, 3) := by decide +kernel
theorem d5_readSetup_55 : decode b5_readSetup 55 = .ok (.iconst 0, 1) := by decide +kernel
theorem d5_readSetup_56 : decode b5_readSetup 56 = .ok (.ireturn, 1) := by decide +kernel
theorem d5_readSetup_57 : decode b5_readSetup 57 = .ok (.iinc 1 1, 3) := by decide +kernel
theorem d5_readSetup_60 : decode b5_readSetup 60 = .ok (.goto (-34), 3) := by decide +kernel
theorem d5_readSetup_63 : decode b5_readSetup 63 = .ok (.iconst 1, 1) := by decide +kernel
theorem d5_readSetup_64 : decode b5_readSetup 64 = .ok (.ireturn, 1) := by decide +kernel
abbrev b5_readSettings : ByteArray := prog_1_method_108_code
def y5_readSettings : MethodName := ⟨"ChannelSchedule", "readSettings", "()Z"⟩
theorem w5_readSettings : YV y5_readSettings b5_readSettings 1 (some .boolean) 0 := ⟨LW_i 321 (by decide +kernel) (by decide +kernel), LW_i 1 (by decide +kernel) (by decide +kernel), LW_i 28 (by decide +kernel) (by decide +kernel), LW_i 322 (by decide +kernel) (by decide +kernel), by decide +kernel, by decide +kernel⟩
theorem d5_readSettings_0 : decode b5_readSettings 0 = .ok (.aload_n 0, 1) := by decide +kernel
theorem d5_readSettings_1 : decode b5_readSettings 1 = .ok (.getfield 10, 3) := by decide +kernel
theorem d5_readSettings_4 : decode b5_readSettings 4 = .ok (.ldc_w 391, 3) := by decide +kernel
theorem d5_readSettings_7 : decode b5_readSettings 7 = .ok (.invokevirtual 393, 3) := by decide +kernel
theorem d5_readSettings_10 : decode b5_readSettings 10 = .ok (.ifCond .eq 16, 3) := by decide +kernel
theorem d5_readSettings_13 : decode b5_readSettings 13 = .ok (.aload_n 0, 1) := by decide +kernel
theorem d5_readSettings_14 : decode b5_readSettings 14 = .ok (.getfield 10, 3) := by decide +kernel
theorem d5_readSettings_17 : decode b5_readSettings 17 = .ok (.iconst 0, 1) := by decide +kernel
theorem d5_readSettings_18 : decode b5_readSettings 18 = .ok (.bipush 30, 2) := by decide +kernel
theorem d5_readSettings_20 : decode b5_readSettings 20 = .ok (.invokevirtual 397, 3) := by decide +kernel
theorem d5_readSettings_23 : decode b5_readSettings 23 = .ok (.ifCond .ne 5, 3) := by decide +kernel
theorem d5_readSettings_26 : decode b5_readSettings 26 = .ok (.iconst 0, 1) := by decide +kernel
theorem d5_readSettings_27 : decode b5_readSettings 27 = .ok (.ireturn, 1) := by decide +kernel
theorem d5_readSettings_28 : decode b5_readSettings 28 = .ok (.aload_n 0, 1) := by decide +kernel
theorem d5_readSettings_29 : decode b5_readSettings 29 = .ok (.getfield 30, 3) := by decide +kernel
theorem d5_readSettings_32 : decode b5_readSettings 32 = .ok (.aload_n 0, 1) := by decide +kernel
theorem d5_readSettings_33 : decode b5_readSettings 33 = .ok (.getfield 10, 3) := by decide +kernel
theorem d5_readSettings_36 : decode b5_readSettings 36 = .ok (.getfield 400, 3) := by decide +kernel
theorem d5_readSettings_39 : decode b5_readSettings 39 = .ok (.putfield 120, 3) := by decide +kernel
theorem d5_readSettings_42 : decode b5_readSettings 42 = .ok (.aload_n 0, 1) := by decide +kernel
theorem d5_readSettings_43 : decode b5_readSettings 43 = .ok (.getfield 10, 3) := by decide +kernel
theorem d5_readSettings_46 : decode b5_readSettings 46 = .ok (.iconst 0, 1) := by decide +kernel
theorem d5_readSettings_47 : decode b5_readSettings 47 = .ok (.bipush 30, 2) := by decide +kernel
theorem d5_readSettings_49 : decode b5_readSettings 49 = .ok (.invokevirtual 397, 3) := by decide +kernel
theorem d5_readSettings_52 : decode b5_readSettings 52 = .ok (.ifCond .ne 5, 3) := by decide +kernel
theorem d5_readSettings_55 : decode b5_readSettings 55 = .ok (.iconst 0, 1) := by decide +kernel
theorem d5_readSettings_56 : decode b5_readSettings 56 = .ok (.ireturn, 1) := by decide +kernel
theorem d5_readSettings_57 : decode b5_readSettings 57 = .ok (.aload_n 0, 1) := by decide +kernel
theorem d5_readSettings_58 : decode b5_readSettings 58 = .ok (.getfield 30, 3) := by decide +kernel
theorem d5_readSettings_61 : decode b5_readSettings 61 = .ok (.aload_n 0, 1) := by decide +kernel
theorem d5_readSettings_62 : decode b5_readSettings 62 = .ok (.getfield 10, 3) := by decide +kernel
theorem d5_readSettings_65 : decode b5_readSettings 65 = .ok (.getfield 400, 3) := by decide +kernel
theorem d5_readSettings_68 : decode b5_readSettings 68 = .ok (.putfield 123, 3) := by decide +kernel
theorem d5_readSettings_71 : decode b5_readSettings 71 = .ok (.aload_n 0, 1) := by decide +kernel
theorem d5_readSettings_72 : decode b5_readSettings 72 = .ok (.getfield 10, 3) := by decide +kernel
theorem d5_readSettings_75 : decode b5_readSettings 75 = .ok (.iconst 0, 1) := by decide +kernel
theorem d5_readSettings_76 : decode b5_readSettings 76 = .ok (.bipush 9, 2) := by decide +kernel
theorem d5_readSettings_78 : decode b5_readSettings 78 = .ok (.invokevirtual 397, 3) := by decide +kernel
theorem d5_readSettings_81 : decode b5_readSettings 81 = .ok (.ifCond .ne 5, 3) := by decide +kernel
theorem d5_readSettings_84 : decode b5_readSettings 84 = .ok (.iconst 0, 1) := by decide +kernel
theorem d5_readSettings_85 : decode b5_readSettings 85 = .ok (.ireturn, 1) := by decide +kernel
theorem d5_readSettings_86 : decode b5_readSettings 86 = .ok (.aload_n 0, 1) := by decide +kernel
theorem d5_readSettings_87 : decode b5_readSettings 87 = .ok (.getfield 30, 3) := by decide +kernel
theorem d5_readSettings_90 : decode b5_readSettings 90 = .ok (.aload_n 0, 1) := by decide +kernel
theorem d5_readSettings_91 : decode b5_readSettings 91 = .ok (.getfield 10, 3) := by decide +kernel
theorem d5_readSettings_94 : decode b5_readSettings 94 = .ok (.getfield 400, 3) := by decide +kernel
theorem d5_readSettings_97 : decode b5_readSettings 97 = .ok (.putfield 403, 3) := by decide +kernel
theorem d5_readSettings_100 : decode b5_readSettings 100 = .ok (.aload_n 0, 1) := by decide +kernel
theorem d5_readSettings_101 : decode b5_readSettings 101 = .ok (.getfield 10, 3) := by decide +kernel
theorem d5_readSettings_104 : decode b5_readSettings 104 = .ok (.invokevirtual 404, 3) := by decide +kernel
theorem d5_readSettings_107 : decode b5_readSettings 107 = .ok (.ireturn, 1) := by decide +kernel
abbrev b5_readShip : ByteArray := prog_1_method_109_code
def y5_readShip : MethodName := ⟨"ChannelSchedule", "readShip", "()Z"⟩
theorem w5_readShip : YV y5_readShip b5_readShip 2 (some .boolean) 0 := ⟨LW_i 348 (by decide +kernel) (by decide +kernel), LW_i 2 (by decide +kernel) (by decide +kernel), LW_i 28 (by decide +kernel) (by decide +kernel), LW_i 349 (by decide +kernel) (by decide +kernel), by decide +kernel, by decide +kernel⟩
theorem d5_readShip_0 : decode b5_readShip 0 = .ok (.aload_n 0, 1) := by decide +kernel
theorem d5_readShip_1 : decode b5_readShip 1 = .ok (.getfield 10, 3) := by decide +kernel
theorem d5_readShip_4 : decode b5_readShip 4 = .ok (.ldc_w 407, 3) := by decide +kernel
theorem d5_readShip_7 : decode b5_readShip 7 = .ok (.invokevirtual 409, 3) := by decide +kernel
theorem d5_readShip_10 : decode b5_readShip 10 = .ok (.ifCond .eq 24, 3) := by decide +kernel
theorem d5_readShip_13 : decode b5_readShip 13 = .ok (.aload_n 0, 1) := by decide +kernel
theorem d5_readShip_14 : decode b5_readShip 14 = .ok (.getfield 30, 3) := by decide +kernel
theorem d5_readShip_17 : decode b5_readShip 17 = .ok (.getfield 111, 3) := by decide +kernel
theorem d5_readShip_20 : decode b5_readShip 20 = .ok (.bipush 10, 2) := by decide +kernel
theorem d5_readShip_22 : decode b5_readShip 22 = .ok (.if_icmp .ne 12, 3) := by decide +kernel
theorem d5_readShip_25 : decode b5_readShip 25 = .ok (.aload_n 0, 1) := by decide +kernel
theorem d5_readShip_26 : decode b5_readShip 26 = .ok (.getfield 10, 3) := by decide +kernel
theorem d5_readShip_29 : decode b5_readShip 29 = .ok (.iconst 4, 1) := by decide +kernel
theorem d5_readShip_30 : decode b5_readShip 30 = .ok (.invokevirtual 412, 3) := by decide +kernel
theorem d5_readShip_33 : decode b5_readShip 33 = .ok (.ireturn, 1) := by decide +kernel
theorem d5_readShip_34 : decode b5_readShip 34 = .ok (.aload_n 0, 1) := by decide +kernel
theorem d5_readShip_35 : decode b5_readShip 35 = .ok (.getfield 10, 3) := by decide +kernel
theorem d5_readShip_38 : decode b5_readShip 38 = .ok (.ldc_w 407, 3) := by decide +kernel
theorem d5_readShip_41 : decode b5_readShip 41 = .ok (.invokevirtual 393, 3) := by decide +kernel
theorem d5_readShip_44 : decode b5_readShip 44 = .ok (.ifCond .ne 5, 3) := by decide +kernel
theorem d5_readShip_47 : decode b5_readShip 47 = .ok (.iconst 0, 1) := by decide +kernel
theorem d5_readShip_48 : decode b5_readShip 48 = .ok (.ireturn, 1) := by decide +kernel
theorem d5_readShip_49 : decode b5_readShip 49 = .ok (.aload_n 0, 1) := by decide +kernel
theorem d5_readShip_50 : decode b5_readShip 50 = .ok (.getfield 30, 3) := by decide +kernel
theorem d5_readShip_53 : decode b5_readShip 53 = .ok (.getfield 143, 3) := by decide +kernel
theorem d5_readShip_56 : decode b5_readShip 56 = .ok (.aload_n 0, 1) := by decide +kernel
theorem d5_readShip_57 : decode b5_readShip 57 = .ok (.getfield 30, 3) := by decide +kernel
theorem d5_readShip_60 : decode b5_readShip 60 = .ok (.getfield 111, 3) := by decide +kernel
theorem d5_readShip_63 : decode b5_readShip 63 = .ok (.aaload, 1) := by decide +kernel
theorem d5_readShip_64 : decode b5_readShip 64 = .ok (.astore_n 1, 1) := by decide +kernel
theorem d5_readShip_65 : decode b5_readShip 65 = .ok (.aload_n 0, 1) := by decide +kernel
theorem d5_readShip_66 : decode b5_readShip 66 = .ok (.aload_n 1, 1) := by decide +kernel
theorem d5_readShip_67 : decode b5_readShip 67 = .ok (.invokevirtual 415, 3) := by decide +kernel
theorem d5_readShip_70 : decode b5_readShip 70 = .ok (.ifCond .eq 16, 3) := by decide +kernel
theorem d5_readShip_73 : decode b5_readShip 73 = .ok (.aload_n 0, 1) := by decide +kernel
theorem d5_readShip_74 : decode b5_readShip 74 = .ok (.getfield 10, 3) := by decide +kernel
theorem d5_readShip_77 : decode b5_readShip 77 = .ok (.iconst 1, 1) := by decide +kernel
theorem d5_readShip_78 : decode b5_readShip 78 = .ok (.bipush 60, 2) := by decide +kernel
theorem d5_readShip_80 : decode b5_readShip 80 = .ok (.invokevirtual 397, 3) := by decide +kernel
theorem d5_readShip_83 : decode b5_readShip 83 = .ok (.ifCond .ne 5, 3) := by decide +kernel
theorem d5_readShip_86 : decode b5_readShip 86 = .ok (.iconst 0, 1) := by decide +kernel
theorem d5_readShip_87 : decode b5_readShip 87 = .ok (.ireturn, 1) := by decide +kernel
theorem d5_readShip_88 : decode b5_readShip 88 = .ok (.aload_n 1, 1) := by decide +kernel
theorem d5_readShip_89 : decode b5_readShip 89 = .ok (.aload_n 0, 1) := by decide +kernel
theorem d5_readShip_90 : decode b5_readShip 90 = .ok (.getfield 10, 3) := by decide +kernel
theorem d5_readShip_93 : decode b5_readShip 93 = .ok (.getfield 400, 3) := by decide +kernel
theorem d5_readShip_96 : decode b5_readShip 96 = .ok (.putfield 348, 3) := by decide +kernel
theorem d5_readShip_99 : decode b5_readShip 99 = .ok (.aload_n 0, 1) := by decide +kernel
theorem d5_readShip_100 : decode b5_readShip 100 = .ok (.getfield 10, 3) := by decide +kernel
theorem d5_readShip_103 : decode b5_readShip 103 = .ok (.iconst 0, 1) := by decide +kernel
theorem d5_readShip_104 : decode b5_readShip 104 = .ok (.bipush 9, 2) := by decide +kernel
theorem d5_readShip_106 : decode b5_readShip 106 = .ok (.invokevirtual 397, 3) := by decide +kernel
theorem d5_readShip_109 : decode b5_readShip 109 = .ok (.ifCond .ne 5, 3) := by decide +kernel
theorem d5_readShip_112 : decode b5_readShip 112 = .ok (.iconst 0, 1) := by decide +kernel
theorem d5_readShip_113 : decode b5_readShip 113 = .ok (.ireturn, 1) := by decide +kernel
theorem d5_readShip_114 : decode b5_readShip 114 = .ok (.aload_n 1, 1) := by decide +kernel
theorem d5_readShip_115 : decode b5_readShip 115 = .ok (.aload_n 0, 1) := by decide +kernel
theorem d5_readShip_116 : decode b5_readShip 116 = .ok (.getfield 10, 3) := by decide +kernel
theorem d5_readShip_119 : decode b5_readShip 119 = .ok (.getfield 400, 3) := by decide +kernel
theorem d5_readShip_122 : decode b5_readShip 122 = .ok (.putfield 147, 3) := by decide +kernel
theorem d5_readShip_125 : decode b5_readShip 125 = .ok (.aload_n 0, 1) := by decide +kernel
theorem d5_readShip_126 : decode b5_readShip 126 = .ok (.getfield 10, 3) := by decide +kernel
theorem d5_readShip_129 : decode b5_readShip 129 = .ok (.iconst 1, 1) := by decide +kernel
theorem d5_readShip_130 : decode b5_readShip 130 = .ok (.bipush 99, 2) := by decide +kernel
theorem d5_readShip_132 : decode b5_readShip 132 = .ok (.invokevirtual 397, 3) := by decide +kernel
theorem d5_readShip_135 : decode b5_readShip 135 = .ok (.ifCond .ne 5, 3) := by decide +kernel
theorem d5_readShip_138 : decode b5_readShip 138 = .ok (.iconst 0, 1) := by decide +kernel
theorem d5_readShip_139 : decode b5_readShip 139 = .ok (.ireturn, 1) := by decide +kernel
theorem d5_readShip_140 : decode b5_readShip 140 = .ok (.aload_n 1, 1) := by decide +kernel
theorem d5_readShip_141 : decode b5_readShip 141 = .ok (.aload_n 0, 1) := by decide +kernel
theorem d5_readShip_142 : decode b5_readShip 142 = .ok (.getfield 10, 3) := by decide +kernel
theorem d5_readShip_145 : decode b5_readShip 145 = .ok (.getfield 400, 3) := by decide +kernel
theorem d5_readShip_148 : decode b5_readShip 148 = .ok (.putfield 152, 3) := by decide +kernel
theorem d5_readShip_151 : decode b5_readShip 151 = .ok (.aload_n 0, 1) := by decide +kernel
theorem d5_readShip_152 : decode b5_readShip 152 = .ok (.getfield 30, 3) := by decide +kernel
theorem d5_readShip_155 : decode b5_readShip 155 = .ok (.dup, 1) := by decide +kernel
theorem d5_readShip_156 : decode b5_readShip 156 = .ok (.getfield 111, 3) := by decide +kernel
theorem d5_readShip_159 : decode b5_readShip 159 = .ok (.iconst 1, 1) := by decide +kernel
theorem d5_readShip_160 : decode b5_readShip 160 = .ok (.iadd, 1) := by decide +kernel
theorem d5_readShip_161 : decode b5_readShip 161 = .ok (.putfield 111, 3) := by decide +kernel
theorem d5_readShip_164 : decode b5_readShip 164 = .ok (.aload_n 0, 1) := by decide +kernel
theorem d5_readShip_165 : decode b5_readShip 165 = .ok (.getfield 10, 3) := by decide +kernel
theorem d5_readShip_168 : decode b5_readShip 168 = .ok (.invokevirtual 404, 3) := by decide +kernel
theorem d5_readShip_171 : decode b5_readShip 171 = .ok (.ireturn, 1) := by decide +kernel
abbrev b5_readNewName : ByteArray := prog_1_method_110_code
def y5_readNewName : MethodName := ⟨"ChannelSchedule", "readNewName", "(LChannelSchedule$Ship;)Z"⟩
theorem w5_readNewName : YV y5_readNewName b5_readNewName 3 (some .boolean) 1 := ⟨LW_i 355 (by decide +kernel) (by decide +kernel), LW_i 3 (by decide +kernel) (by decide +kernel), LW_i 28 (by decide +kernel) (by decide +kernel), LW_i 356 (by decide +kernel) (by decide +kernel), by decide +kernel, by decide +kernel⟩
theorem d5_readNewName_0 : decode b5_readNewName 0 = .ok (.aload_n 0, 1) := by decide +kernel
theorem d5_readNewName_1 : decode b5_readNewName 1 = .ok (.getfield 10, 3) := by decide +kernel
theorem d5_readNewName_4 : decode b5_readNewName 4 = .ok (.getfield 385, 3) := by decide +kernel
theorem d5_readNewName_7 : decode b5_readNewName 7 = .ok (.iconst 1, 1) := by decide +kernel
theorem d5_readNewName_8 : decode b5_readNewName 8 = .ok (.if_icmp .eq 12, 3) := by decide +kernel
theorem d5_readNewName_11 : decode b5_readNewName 11 = .ok (.aload_n 0, 1) := by decide +kernel
theorem d5_readNewName_12 : decode b5_readNewName 12 = .ok (.getfield 10, 3) := by decide +kernel
theorem d5_readNewName_15 : decode b5_readNewName 15 = .ok (.iconst 1, 1) := by decide +kernel
theorem d5_readNewName_16 : decode b5_readNewName 16 = .ok (.invokevirtual 412, 3) := by decide +kernel
theorem d5_readNewName_19 : decode b5_readNewName 19 = .ok (.ireturn, 1) := by decide +kernel
theorem d5_readNewName_20 : decode b5_readNewName 20 = .ok (.aload_n 0, 1) := by decide +kernel
theorem d5_readNewName_21 : decode b5_readNewName 21 = .ok (.getfield 10, 3) := by decide +kernel
theorem d5_readNewName_24 : decode b5_readNewName 24 = .ok (.getfield 419, 3) := by decide +kernel
theorem d5_readNewName_27 : decode b5_readNewName 27 = .ok (.aload_n 0, 1) := by decide +kernel
theorem d5_readNewName_28 : decode b5_readNewName 28 = .ok (.getfield 10, 3) := by decide +kernel
theorem d5_readNewName_31 : decode b5_readNewName 31 = .ok (.getfield 422, 3) := by decide +kernel
theorem d5_readNewName_34 : decode b5_readNewName 34 = .ok (.isub, 1) := by decide +kernel
theorem d5_readNewName_35 : decode b5_readNewName 35 = .ok (.istore_n 2, 1) := by decide +kernel
theorem d5_readNewName_36 : decode b5_readNewName 36 = .ok (.iload_n 2, 1) := by decide +kernel
theorem d5_readNewName_37 : decode b5_readNewName 37 = .ok (.bipush 6, 2) := by decide +kernel
theorem d5_readNewName_39 : decode b5_readNewName 39 = .ok (.if_icmp .gt 29, 3) := by decide +kernel
theorem d5_readNewName_42 : decode b5_readNewName 42 = .ok (.aload_n 0, 1) := by decide +kernel
theorem d5_readNewName_43 : decode b5_readNewName 43 = .ok (.getfield 30, 3) := by decide +kernel
theorem d5_readNewName_46 : decode b5_readNewName 46 = .ok (.aload_n 0, 1) := by decide +kernel
theorem d5_readNewName_47 : decode b5_readNewName 47 = .ok (.getfield 10, 3) := by decide +kernel
theorem d5_readNewName_50 : decode b5_readNewName 50 = .ok (.getfield 165, 3) := by decide +kernel
theorem d5_readNewName_53 : decode b5_readNewName 53 = .ok (.aload_n 0, 1) := by decide +kernel
theorem d5_readNewName_54 : decode b5_readNewName 54 = .ok (.getfield 10, 3) := by decide +kernel
theorem d5_readNewName_57 : decode b5_readNewName 57 = .ok (.getfield 422, 3) := by decide +kernel
theorem d5_readNewName_60 : decode b5_readNewName 60 = .ok (.iload_n 2, 1) := by decide +kernel
theorem d5_readNewName_61 : decode b5_readNewName 61 = .ok (.invokevirtual 168, 3) := by decide +kernel
theorem d5_readNewName_64 : decode b5_readNewName 64 = .ok (.iconst (-1), 1) := by decide +kernel
theorem d5_readNewName_65 : decode b5_readNewName 65 = .ok (.if_icmp .eq 12, 3) := by decide +kernel
theorem d5_readNewName_68 : decode b5_readNewName 68 = .ok (.aload_n 0, 1) := by decide +kernel
theorem d5_readNewName_69 : decode b5_readNewName 69 = .ok (.getfield 10, 3) := by decide +kernel
theorem d5_readNewName_72 : decode b5_readNewName 72 = .ok (.iconst 3, 1) := by decide +kernel
theorem d5_readNewName_73 : decode b5_readNewName 73 = .ok (.invokevirtual 412, 3) := by decide +kernel
theorem d5_readNewName_76 : decode b5_readNewName 76 = .ok (.ireturn, 1) := by decide +kernel
theorem d5_readNewName_77 : decode b5_readNewName 77 = .ok (.aload_n 1, 1) := by decide +kernel
theorem d5_readNewName_78 : decode b5_readNewName 78 = .ok (.aload_n 0, 1) := by decide +kernel
theorem d5_readNewName_79 : decode b5_readNewName 79 = .ok (.getfield 10, 3) := by decide +kernel
theorem d5_readNewName_82 : decode b5_readNewName 82 = .ok (.getfield 165, 3) := by decide +kernel
theorem d5_readNewName_85 : decode b5_readNewName 85 = .ok (.aload_n 0, 1) := by decide +kernel
theorem d5_readNewName_86 : decode b5_readNewName 86 = .ok (.getfield 10, 3) := by decide +kernel
theorem d5_readNewName_89 : decode b5_readNewName 89 = .ok (.getfield 422, 3) := by decide +kernel
theorem d5_readNewName_92 : decode b5_readNewName 92 = .ok (.iload_n 2, 1) := by decide +kernel
theorem d5_readNewName_93 : decode b5_readNewName 93 = .ok (.invokevirtual 425, 3) := by decide +kernel
theorem d5_readNewName_96 : decode b5_readNewName 96 = .ok (.aload_n 0, 1) := by decide +kernel
theorem d5_readNewName_97 : decode b5_readNewName 97 = .ok (.getfield 10, 3) := by decide +kernel
theorem d5_readNewName_100 : decode b5_readNewName 100 = .ok (.invokevirtual 429, 3) := by decide +kernel
theorem d5_readNewName_103 : decode b5_readNewName 103 = .ok (.iconst 1, 1) := by decide +kernel
theorem d5_readNewName_104 : decode b5_readNewName 104 = .ok (.ireturn, 1) := by decide +kernel
abbrev b5_startWithDraft : ByteArray := prog_1_method_111_code
def y5_startWithDraft : MethodName := ⟨"ChannelSchedule", "startWithDraft", "()V"⟩
theorem w5_startWithDraft : YV y5_startWithDraft b5_startWithDraft 3 none 0 := ⟨LW_i 372 (by decide +kernel) (by decide +kernel), LW_i 4 (by decide +kernel) (by decide +kernel), LW_i 28 (by decide +kernel) (by decide +kernel), LW_i 373 (by decide +kernel) (by decide +kernel), by decide +kernel, by decide +kernel⟩
theorem d5_startWithDraft_0 : decode b5_startWithDraft 0 = .ok (.aload_n 0, 1) := by decide +kernel
theorem d5_startWithDraft_1 : decode b5_startWithDraft 1 = .ok (.getfield 26, 3) := by decide +kernel
theorem d5_startWithDraft_4 : decode b5_startWithDraft 4 = .ok (.astore_n 1, 1) := by decide +kernel
theorem d5_startWithDraft_5 : decode b5_startWithDraft 5 = .ok (.aload_n 0, 1) := by decide +kernel
theorem d5_startWithDraft_6 : decode b5_startWithDraft 6 = .ok (.aload_n 0, 1) := by decide +kernel
theorem d5_startWithDraft_7 : decode b5_startWithDraft 7 = .ok (.getfield 30, 3) := by decide +kernel
theorem d5_startWithDraft_10 : decode b5_startWithDraft 10 = .ok (.putfield 26, 3) := by decide +kernel
theorem d5_startWithDraft_13 : decode b5_startWithDraft 13 = .ok (.aload_n 0, 1) := by decide +kernel
theorem d5_startWithDraft_14 : decode b5_startWithDraft 14 = .ok (.aload_n 1, 1) := by decide +kernel
theorem d5_startWithDraft_15 : decode b5_startWithDraft 15 = .ok (.putfield 30, 3) := by decide +kernel
theorem d5_startWithDraft_18 : decode b5_startWithDraft 18 = .ok (.aload_n 0, 1) := by decide +kernel
theorem d5_startWithDraft_19 : decode b5_startWithDraft 19 = .ok (.getfield 36, 3) := by decide +kernel
theorem d5_startWithDraft_22 : decode b5_startWithDraft 22 = .ok (.aload_n 0, 1) := by decide +kernel
theorem d5_startWithDraft_23 : decode b5_startWithDraft 23 = .ok (.getfield 26, 3) := by decide +kernel
theorem d5_startWithDraft_26 : decode b5_startWithDraft 26 = .ok (.getfield 403, 3) := by decide +kernel
theorem d5_startWithDraft_29 : decode b5_startWithDraft 29 = .ok (.invokevirtual 432, 3) := by decide +kernel
theorem d5_startWithDraft_32 : decode b5_startWithDraft 32 = .ok (.aload_n 0, 1) := by decide +kernel
theorem d5_startWithDraft_33 : decode b5_startWithDraft 33 = .ok (.iconst 0, 1) := by decide +kernel
theorem d5_startWithDraft_34 : decode b5_startWithDraft 34 = .ok (.putfield 51, 3) := by decide +kernel
theorem d5_startWithDraft_37 : decode b5_startWithDraft 37 = .ok (.iconst 0, 1) := by decide +kernel
theorem d5_startWithDraft_38 : decode b5_startWithDraft 38 = .ok (.istore_n 2, 1) := by decide +kernel
theorem d5_startWithDraft_39 : decode b5_startWithDraft 39 = .ok (.iload_n 2, 1) := by decide +kernel
theorem d5_startWithDraft_40 : decode b5_startWithDraft 40 = .ok (.iconst 2, 1) := by decide +kernel
theorem d5_startWithDraft_41 : decode b5_startWithDraft 41 = .ok (.if_icmp .ge 16, 3) := by decide +kernel
theorem d5_startWithDraft_44 : decode b5_startWithDraft 44 = .ok (.aload_n 0, 1) := by decide +kernel
theorem d5_startWithDraft_45 : decode b5_startWithDraft 45 = .ok (.getfield 57, 3) := by decide +kernel
theorem d5_startWithDraft_48 : decode b5_startWithDraft 48 = .ok (.iload_n 2, 1) := by decide +kernel
theorem d5_startWithDraft_49 : decode b5_startWithDraft 49 = .ok (.iconst 0, 1) := by decide +kernel
theorem d5_startWithDraft_50 : decode b5_startWithDraft 50 = .ok (.bastore, 1) := by decide +kernel
theorem d5_startWithDraft_51 : decode b5_startWithDraft 51 = .ok (.iinc 2 1, 3) := by decide +kernel
theorem d5_startWithDraft_54 : decode b5_startWithDraft 54 = .ok (.goto (-15), 3) := by decide +kernel
theorem d5_startWithDraft_57 : decode b5_startWithDraft 57 = .ok (.return_, 1) := by decide +kernel
theorem l5_1 : .methodLink "ChannelSchedule" 1 ⟨"java/lang/Object", "<init>", "()V"⟩ ∈ LW := LW_i 58 (by decide +kernel) (by decide +kernel)
theorem l5_9 : .methodLink "ChannelSchedule" 9 y0_init ∈ LW := LW_i 63 (by decide +kernel) (by decide +kernel)
theorem l5_18 : .methodLink "ChannelSchedule" 18 y2_init ∈ LW := LW_i 101 (by decide +kernel) (by decide +kernel)
theorem l5_25 : .methodLink "ChannelSchedule" 25 y3_init ∈ LW := LW_i 128 (by decide +kernel) (by decide +kernel)
theorem l5_35 : .methodLink "ChannelSchedule" 35 y1_init ∈ LW := LW_i 181 (by decide +kernel) (by decide +kernel)
theorem l5_74 : .methodLink "ChannelSchedule" 74 ⟨"java/lang/String", "length", "()I"⟩ ∈ LW := LW_i 248 (by decide +kernel) (by decide +kernel)
theorem l5_80 : .methodLink "ChannelSchedule" 80 ⟨"java/lang/String", "charAt", "(I)C"⟩ ∈ LW := LW_i 258 (by decide +kernel) (by decide +kernel)
theorem l5_84 : .methodLink "ChannelSchedule" 84 y0_putByte ∈ LW := LW_i 296 (by decide +kernel) (by decide +kernel)
theorem l5_88 : .methodLink "ChannelSchedule" 88 y5_readSetup ∈ LW := LW_i 300 (by decide +kernel) (by decide +kernel)
theorem l5_92 : .methodLink "ChannelSchedule" 92 y5_startWithDraft ∈ LW := LW_i 370 (by decide +kernel) (by decide +kernel)
theorem l5_97 : .methodLink "ChannelSchedule" 97 y5_requireState ∈ LW := LW_i 578 (by decide +kernel) (by decide +kernel)
theorem l5_101 : .methodLink "ChannelSchedule" 101 y0_putFour ∈ LW := LW_i 824 (by decide +kernel) (by decide +kernel)
theorem l5_104 : .methodLink "ChannelSchedule" 104 y5_isWithin ∈ LW := LW_i 544 (by decide +kernel) (by decide +kernel)
theorem l5_108 : .methodLink "ChannelSchedule" 108 y5_requireArgument ∈ LW := LW_i 425 (by decide +kernel) (by decide +kernel)
theorem l5_132 : .methodLink "ChannelSchedule" 132 y5_isShip ∈ LW := LW_i 499 (by decide +kernel) (by decide +kernel)
theorem l5_136 : .methodLink "ChannelSchedule" 136 y5_requireIndex ∈ LW := LW_i 506 (by decide +kernel) (by decide +kernel)
theorem l5_139 : .methodLink "ChannelSchedule" 139 y5_transitOf ∈ LW := LW_i 524 (by decide +kernel) (by decide +kernel)
theorem l5_158 : .methodLink "ChannelSchedule" 158 y5_isNumberBelow ∈ LW := LW_i 503 (by decide +kernel) (by decide +kernel)
theorem l5_168 : .methodLink "ChannelSchedule" 168 y3_shipNamed ∈ LW := LW_i 357 (by decide +kernel) (by decide +kernel)
theorem l5_178 : .methodLink "ChannelSchedule" 178 y5_isBooking ∈ LW := LW_i 536 (by decide +kernel) (by decide +kernel)
theorem l5_205 : .methodLink "ChannelSchedule" 205 y5_clashes ∈ LW := LW_i 547 (by decide +kernel) (by decide +kernel)
theorem l5_209 : .methodLink "ChannelSchedule" 209 y5_firstClash ∈ LW := LW_i 571 (by decide +kernel) (by decide +kernel)
theorem l5_213 : .methodLink "ChannelSchedule" 213 y5_leastFreeStart ∈ LW := LW_i 632 (by decide +kernel) (by decide +kernel)
theorem l5_224 : .methodLink "ChannelSchedule" 224 y5_freeBefore ∈ LW := LW_i 551 (by decide +kernel) (by decide +kernel)
theorem l5_234 : .methodLink "ChannelSchedule" 234 y5_isRequest ∈ LW := LW_i 747 (by decide +kernel) (by decide +kernel)
theorem l5_261 : .methodLink "ChannelSchedule" 261 y1_copyFrom ∈ LW := LW_i 600 (by decide +kernel) (by decide +kernel)
theorem l5_265 : .methodLink "ChannelSchedule" 265 y5_cancelNow ∈ LW := LW_i 652 (by decide +kernel) (by decide +kernel)
theorem l5_277 : .methodLink "ChannelSchedule" 277 y5_bookFault ∈ LW := LW_i 567 (by decide +kernel) (by decide +kernel)
theorem l5_281 : .methodLink "ChannelSchedule" 281 y5_refuse ∈ LW := LW_i 575 (by decide +kernel) (by decide +kernel)
theorem l5_284 : .methodLink "ChannelSchedule" 284 y5_remember ∈ LW := LW_i 596 (by decide +kernel) (by decide +kernel)
theorem l5_287 : .methodLink "ChannelSchedule" 287 y5_bookNow ∈ LW := LW_i 612 (by decide +kernel) (by decide +kernel)
theorem l5_290 : .methodLink "ChannelSchedule" 290 y5_requestFault ∈ LW := LW_i 624 (by decide +kernel) (by decide +kernel)
theorem l5_294 : .methodLink "ChannelSchedule" 294 y5_requestNow ∈ LW := LW_i 636 (by decide +kernel) (by decide +kernel)
theorem l5_297 : .methodLink "ChannelSchedule" 297 y5_cancelFault ∈ LW := LW_i 648 (by decide +kernel) (by decide +kernel)
theorem l5_306 : .methodLink "ChannelSchedule" 306 y1_removeRequest ∈ LW := LW_i 664 (by decide +kernel) (by decide +kernel)
theorem l5_309 : .methodLink "ChannelSchedule" 309 y5_freezeNow ∈ LW := LW_i 1085 (by decide +kernel) (by decide +kernel)
theorem l5_312 : .methodLink "ChannelSchedule" 312 y5_advanceFault ∈ LW := LW_i 1093 (by decide +kernel) (by decide +kernel)
theorem l5_315 : .methodLink "ChannelSchedule" 315 y5_advanceNow ∈ LW := LW_i 1097 (by decide +kernel) (by decide +kernel)
theorem l5_338 : .methodLink "ChannelSchedule" 338 ⟨"java/lang/IndexOutOfBoundsException", "<init>", "()V"⟩ ∈ LW := LW_i 518 (by decide +kernel) (by decide +kernel)
theorem l5_341 : .methodLink "ChannelSchedule" 341 ⟨"java/lang/IllegalArgumentException", "<init>", "()V"⟩ ∈ LW := LW_i 469 (by decide +kernel) (by decide +kernel)
theorem l5_344 : .methodLink "ChannelSchedule" 344 ⟨"java/lang/IllegalStateException", "<init>", "()V"⟩ ∈ LW := LW_i 590 (by decide +kernel) (by decide +kernel)
theorem l5_351 : .methodLink "ChannelSchedule" 351 y5_freeAfter ∈ LW := LW_i 555 (by decide +kernel) (by decide +kernel)
theorem l5_354 : .methodLink "ChannelSchedule" 354 y5_startToServe ∈ LW := LW_i 628 (by decide +kernel) (by decide +kernel)
theorem l5_366 : .methodLink "ChannelSchedule" 366 y1_insertBooking ∈ LW := LW_i 616 (by decide +kernel) (by decide +kernel)
theorem l5_370 : .methodLink "ChannelSchedule" 370 y1_addRequest ∈ LW := LW_i 640 (by decide +kernel) (by decide +kernel)
theorem l5_373 : .methodLink "ChannelSchedule" 373 y1_removeBooking ∈ LW := LW_i 656 (by decide +kernel) (by decide +kernel)
theorem l5_376 : .methodLink "ChannelSchedule" 376 y5_serveWaiting ∈ LW := LW_i 660 (by decide +kernel) (by decide +kernel)
theorem l5_379 : .methodLink "ChannelSchedule" 379 y0_startReading ∈ LW := LW_i 304 (by decide +kernel) (by decide +kernel)
theorem l5_382 : .methodLink "ChannelSchedule" 382 y5_readSettings ∈ LW := LW_i 319 (by decide +kernel) (by decide +kernel)
theorem l5_388 : .methodLink "ChannelSchedule" 388 y5_readShip ∈ LW := LW_i 346 (by decide +kernel) (by decide +kernel)
theorem l5_393 : .methodLink "ChannelSchedule" 393 y0_takeWord ∈ LW := LW_i 324 (by decide +kernel) (by decide +kernel)
theorem l5_397 : .methodLink "ChannelSchedule" 397 y0_takeNumber ∈ LW := LW_i 338 (by decide +kernel) (by decide +kernel)
theorem l5_404 : .methodLink "ChannelSchedule" 404 y0_takeSemicolon ∈ LW := LW_i 342 (by decide +kernel) (by decide +kernel)
theorem l5_409 : .methodLink "ChannelSchedule" 409 y0_isWord ∈ LW := LW_i 351 (by decide +kernel) (by decide +kernel)
theorem l5_412 : .methodLink "ChannelSchedule" 412 y0_fail ∈ LW := LW_i 352 (by decide +kernel) (by decide +kernel)
theorem l5_415 : .methodLink "ChannelSchedule" 415 y5_readNewName ∈ LW := LW_i 353 (by decide +kernel) (by decide +kernel)
theorem l5_425 : .methodLink "ChannelSchedule" 425 y4_takeName ∈ LW := LW_i 365 (by decide +kernel) (by decide +kernel)
theorem l5_429 : .methodLink "ChannelSchedule" 429 y0_readToken ∈ LW := LW_i 369 (by decide +kernel) (by decide +kernel)
theorem l5_432 : .methodLink "ChannelSchedule" 432 y1_startAnew ∈ LW := LW_i 374 (by decide +kernel) (by decide +kernel)
theorem l0_3 : .methodLink "ChannelSchedule$Input" 3 ⟨"java/lang/Object", "<init>", "()V"⟩ ∈ LW := LW_i 66 (by decide +kernel) (by decide +kernel)
theorem l0_37 : .methodLink "ChannelSchedule$Input" 37 y0_putByte ∈ LW := LW_i 828 (by decide +kernel) (by decide +kernel)
theorem l0_41 : .methodLink "ChannelSchedule$Input" 41 y0_readToken ∈ LW := LW_i 308 (by decide +kernel) (by decide +kernel)
theorem l0_44 : .methodLink "ChannelSchedule$Input" 44 y0_kindOf ∈ LW := LW_i 312 (by decide +kernel) (by decide +kernel)
theorem l0_48 : .methodLink "ChannelSchedule$Input" 48 y0_readRun ∈ LW := LW_i 315 (by decide +kernel) (by decide +kernel)
theorem l0_51 : .methodLink "ChannelSchedule$Input" 51 ⟨"java/lang/String", "length", "()I"⟩ ∈ LW := LW_i 332 (by decide +kernel) (by decide +kernel)
theorem l0_56 : .methodLink "ChannelSchedule$Input" 56 ⟨"java/lang/String", "charAt", "(I)C"⟩ ∈ LW := LW_i 333 (by decide +kernel) (by decide +kernel)
theorem l0_60 : .methodLink "ChannelSchedule$Input" 60 y0_isWord ∈ LW := LW_i 328 (by decide +kernel) (by decide +kernel)
theorem l0_64 : .methodLink "ChannelSchedule$Input" 64 y0_fail ∈ LW := LW_i 334 (by decide +kernel) (by decide +kernel)
theorem l1_3 : .methodLink "ChannelSchedule$Plan" 3 ⟨"java/lang/Object", "<init>", "()V"⟩ ∈ LW := LW_i 184 (by decide +kernel) (by decide +kernel)
theorem l1_59 : .methodLink "ChannelSchedule$Plan" 59 y1_putBooking ∈ LW := LW_i 604 (by decide +kernel) (by decide +kernel)
theorem l1_63 : .methodLink "ChannelSchedule$Plan" 63 y1_putRequest ∈ LW := LW_i 608 (by decide +kernel) (by decide +kernel)
theorem l2_3 : .methodLink "ChannelSchedule$Script" 3 ⟨"java/lang/Object", "<init>", "()V"⟩ ∈ LW := LW_i 104 (by decide +kernel) (by decide +kernel)
theorem l3_3 : .methodLink "ChannelSchedule$Setup" 3 ⟨"java/lang/Object", "<init>", "()V"⟩ ∈ LW := LW_i 131 (by decide +kernel) (by decide +kernel)
theorem l3_30 : .methodLink "ChannelSchedule$Setup" 30 y4_init ∈ LW := LW_i 135 (by decide +kernel) (by decide +kernel)
theorem l3_31 : .methodLink "ChannelSchedule$Setup" 31 y4_hasName ∈ LW := LW_i 361 (by decide +kernel) (by decide +kernel)
theorem l4_3 : .methodLink "ChannelSchedule$Ship" 3 ⟨"java/lang/Object", "<init>", "()V"⟩ ∈ LW := LW_i 138 (by decide +kernel) (by decide +kernel)
theorem f5_10 : .fieldLink "ChannelSchedule" 10 "ChannelSchedule" "input" "LChannelSchedule$Input;" ∈ LW := LW_i 378 (by decide +kernel) (by decide +kernel)
theorem f5_19 : .fieldLink "ChannelSchedule" 19 "ChannelSchedule" "script" "LChannelSchedule$Script;" ∈ LW := LW_i 379 (by decide +kernel) (by decide +kernel)
theorem f5_26 : .fieldLink "ChannelSchedule" 26 "ChannelSchedule" "setup" "LChannelSchedule$Setup;" ∈ LW := LW_i 380 (by decide +kernel) (by decide +kernel)
theorem f5_30 : .fieldLink "ChannelSchedule" 30 "ChannelSchedule" "draft" "LChannelSchedule$Setup;" ∈ LW := LW_i 381 (by decide +kernel) (by decide +kernel)
theorem f5_36 : .fieldLink "ChannelSchedule" 36 "ChannelSchedule" "plan" "LChannelSchedule$Plan;" ∈ LW := LW_i 382 (by decide +kernel) (by decide +kernel)
theorem f5_40 : .fieldLink "ChannelSchedule" 40 "ChannelSchedule" "kept" "LChannelSchedule$Plan;" ∈ LW := LW_i 383 (by decide +kernel) (by decide +kernel)
theorem f5_43 : .fieldLink "ChannelSchedule" 43 "ChannelSchedule" "past" "[LChannelSchedule$Plan;" ∈ LW := LW_i 384 (by decide +kernel) (by decide +kernel)
theorem f5_47 : .fieldLink "ChannelSchedule" 47 "ChannelSchedule" "latestPast" "I" ∈ LW := LW_i 385 (by decide +kernel) (by decide +kernel)
theorem f5_51 : .fieldLink "ChannelSchedule" 51 "ChannelSchedule" "pastCount" "I" ∈ LW := LW_i 386 (by decide +kernel) (by decide +kernel)
theorem f5_54 : .fieldLink "ChannelSchedule" 54 "ChannelSchedule" "saved" "[LChannelSchedule$Plan;" ∈ LW := LW_i 387 (by decide +kernel) (by decide +kernel)
theorem f5_57 : .fieldLink "ChannelSchedule" 57 "ChannelSchedule" "isSaved" "[Z" ∈ LW := LW_i 388 (by decide +kernel) (by decide +kernel)
theorem f5_61 : .fieldLink "ChannelSchedule" 61 "ChannelSchedule" "excluded" "[I" ∈ LW := LW_i 389 (by decide +kernel) (by decide +kernel)
theorem f5_65 : .fieldLink "ChannelSchedule" 65 "ChannelSchedule" "output" "[B" ∈ LW := LW_i 390 (by decide +kernel) (by decide +kernel)
theorem f5_69 : .fieldLink "ChannelSchedule" 69 "ChannelSchedule" "outputLength" "I" ∈ LW := LW_i 391 (by decide +kernel) (by decide +kernel)
theorem f5_95 : .fieldLink "ChannelSchedule" 95 "ChannelSchedule$Input" "length" "I" ∈ LW := LW_i 70 (by decide +kernel) (by decide +kernel)
theorem f5_111 : .fieldLink "ChannelSchedule" 111 "ChannelSchedule$Setup" "shipCount" "I" ∈ LW := LW_i 165 (by decide +kernel) (by decide +kernel)
theorem f5_120 : .fieldLink "ChannelSchedule" 120 "ChannelSchedule$Setup" "headway" "I" ∈ LW := LW_i 159 (by decide +kernel) (by decide +kernel)
theorem f5_123 : .fieldLink "ChannelSchedule" 123 "ChannelSchedule$Setup" "clearance" "I" ∈ LW := LW_i 161 (by decide +kernel) (by decide +kernel)
theorem f5_126 : .fieldLink "ChannelSchedule" 126 "ChannelSchedule$Plan" "thickness" "I" ∈ LW := LW_i 186 (by decide +kernel) (by decide +kernel)
theorem f5_129 : .fieldLink "ChannelSchedule" 129 "ChannelSchedule$Plan" "minute" "I" ∈ LW := LW_i 188 (by decide +kernel) (by decide +kernel)
theorem f5_143 : .fieldLink "ChannelSchedule" 143 "ChannelSchedule$Setup" "ships" "[LChannelSchedule$Ship;" ∈ LW := LW_i 167 (by decide +kernel) (by decide +kernel)
theorem f5_147 : .fieldLink "ChannelSchedule" 147 "ChannelSchedule$Ship" "iceClass" "I" ∈ LW := LW_i 144 (by decide +kernel) (by decide +kernel)
theorem f5_152 : .fieldLink "ChannelSchedule" 152 "ChannelSchedule$Ship" "weight" "I" ∈ LW := LW_i 146 (by decide +kernel) (by decide +kernel)
theorem f5_165 : .fieldLink "ChannelSchedule" 165 "ChannelSchedule$Input" "bytes" "[B" ∈ LW := LW_i 68 (by decide +kernel) (by decide +kernel)
theorem f5_175 : .fieldLink "ChannelSchedule" 175 "ChannelSchedule$Plan" "bookings" "I" ∈ LW := LW_i 196 (by decide +kernel) (by decide +kernel)
theorem f5_181 : .fieldLink "ChannelSchedule" 181 "ChannelSchedule$Plan" "ships" "[I" ∈ LW := LW_i 198 (by decide +kernel) (by decide +kernel)
theorem f5_183 : .fieldLink "ChannelSchedule" 183 "ChannelSchedule$Plan" "starts" "[I" ∈ LW := LW_i 202 (by decide +kernel) (by decide +kernel)
theorem f5_186 : .fieldLink "ChannelSchedule" 186 "ChannelSchedule$Plan" "ends" "[I" ∈ LW := LW_i 204 (by decide +kernel) (by decide +kernel)
theorem f5_189 : .fieldLink "ChannelSchedule" 189 "ChannelSchedule$Plan" "inbound" "[Z" ∈ LW := LW_i 200 (by decide +kernel) (by decide +kernel)
theorem f5_231 : .fieldLink "ChannelSchedule" 231 "ChannelSchedule$Plan" "requests" "I" ∈ LW := LW_i 206 (by decide +kernel) (by decide +kernel)
theorem f5_237 : .fieldLink "ChannelSchedule" 237 "ChannelSchedule$Plan" "waitingShips" "[I" ∈ LW := LW_i 208 (by decide +kernel) (by decide +kernel)
theorem f5_240 : .fieldLink "ChannelSchedule" 240 "ChannelSchedule$Plan" "waitingInbound" "[Z" ∈ LW := LW_i 210 (by decide +kernel) (by decide +kernel)
theorem f5_243 : .fieldLink "ChannelSchedule" 243 "ChannelSchedule$Plan" "earliest" "[I" ∈ LW := LW_i 212 (by decide +kernel) (by decide +kernel)
theorem f5_246 : .fieldLink "ChannelSchedule" 246 "ChannelSchedule$Plan" "latest" "[I" ∈ LW := LW_i 214 (by decide +kernel) (by decide +kernel)
theorem f5_268 : .fieldLink "ChannelSchedule" 268 "ChannelSchedule$Plan" "made" "I" ∈ LW := LW_i 190 (by decide +kernel) (by decide +kernel)
theorem f5_271 : .fieldLink "ChannelSchedule" 271 "ChannelSchedule$Plan" "cancelled" "I" ∈ LW := LW_i 192 (by decide +kernel) (by decide +kernel)
theorem f5_274 : .fieldLink "ChannelSchedule" 274 "ChannelSchedule$Plan" "served" "I" ∈ LW := LW_i 194 (by decide +kernel) (by decide +kernel)
theorem f5_348 : .fieldLink "ChannelSchedule" 348 "ChannelSchedule$Ship" "time" "I" ∈ LW := LW_i 142 (by decide +kernel) (by decide +kernel)
theorem f5_385 : .fieldLink "ChannelSchedule" 385 "ChannelSchedule$Input" "kind" "I" ∈ LW := LW_i 74 (by decide +kernel) (by decide +kernel)
theorem f5_400 : .fieldLink "ChannelSchedule" 400 "ChannelSchedule$Input" "number" "I" ∈ LW := LW_i 80 (by decide +kernel) (by decide +kernel)
theorem f5_403 : .fieldLink "ChannelSchedule" 403 "ChannelSchedule$Setup" "thickness" "I" ∈ LW := LW_i 163 (by decide +kernel) (by decide +kernel)
theorem f5_419 : .fieldLink "ChannelSchedule" 419 "ChannelSchedule$Input" "at" "I" ∈ LW := LW_i 78 (by decide +kernel) (by decide +kernel)
theorem f5_422 : .fieldLink "ChannelSchedule" 422 "ChannelSchedule$Input" "tokenStart" "I" ∈ LW := LW_i 76 (by decide +kernel) (by decide +kernel)
theorem f0_9 : .fieldLink "ChannelSchedule$Input" 9 "ChannelSchedule$Input" "bytes" "[B" ∈ LW := LW_i 67 (by decide +kernel) (by decide +kernel)
theorem f0_15 : .fieldLink "ChannelSchedule$Input" 15 "ChannelSchedule$Input" "length" "I" ∈ LW := LW_i 69 (by decide +kernel) (by decide +kernel)
theorem f0_19 : .fieldLink "ChannelSchedule$Input" 19 "ChannelSchedule$Input" "errorCode" "I" ∈ LW := LW_i 71 (by decide +kernel) (by decide +kernel)
theorem f0_22 : .fieldLink "ChannelSchedule$Input" 22 "ChannelSchedule$Input" "errorPosition" "I" ∈ LW := LW_i 72 (by decide +kernel) (by decide +kernel)
theorem f0_25 : .fieldLink "ChannelSchedule$Input" 25 "ChannelSchedule$Input" "kind" "I" ∈ LW := LW_i 73 (by decide +kernel) (by decide +kernel)
theorem f0_28 : .fieldLink "ChannelSchedule$Input" 28 "ChannelSchedule$Input" "tokenStart" "I" ∈ LW := LW_i 75 (by decide +kernel) (by decide +kernel)
theorem f0_31 : .fieldLink "ChannelSchedule$Input" 31 "ChannelSchedule$Input" "at" "I" ∈ LW := LW_i 77 (by decide +kernel) (by decide +kernel)
theorem f0_34 : .fieldLink "ChannelSchedule$Input" 34 "ChannelSchedule$Input" "number" "I" ∈ LW := LW_i 79 (by decide +kernel) (by decide +kernel)
theorem f1_9 : .fieldLink "ChannelSchedule$Plan" 9 "ChannelSchedule$Plan" "thickness" "I" ∈ LW := LW_i 185 (by decide +kernel) (by decide +kernel)
theorem f1_15 : .fieldLink "ChannelSchedule$Plan" 15 "ChannelSchedule$Plan" "minute" "I" ∈ LW := LW_i 187 (by decide +kernel) (by decide +kernel)
theorem f1_18 : .fieldLink "ChannelSchedule$Plan" 18 "ChannelSchedule$Plan" "made" "I" ∈ LW := LW_i 189 (by decide +kernel) (by decide +kernel)
theorem f1_21 : .fieldLink "ChannelSchedule$Plan" 21 "ChannelSchedule$Plan" "cancelled" "I" ∈ LW := LW_i 191 (by decide +kernel) (by decide +kernel)
theorem f1_24 : .fieldLink "ChannelSchedule$Plan" 24 "ChannelSchedule$Plan" "served" "I" ∈ LW := LW_i 193 (by decide +kernel) (by decide +kernel)
theorem f1_27 : .fieldLink "ChannelSchedule$Plan" 27 "ChannelSchedule$Plan" "bookings" "I" ∈ LW := LW_i 195 (by decide +kernel) (by decide +kernel)
theorem f1_30 : .fieldLink "ChannelSchedule$Plan" 30 "ChannelSchedule$Plan" "ships" "[I" ∈ LW := LW_i 197 (by decide +kernel) (by decide +kernel)
theorem f1_34 : .fieldLink "ChannelSchedule$Plan" 34 "ChannelSchedule$Plan" "inbound" "[Z" ∈ LW := LW_i 199 (by decide +kernel) (by decide +kernel)
theorem f1_38 : .fieldLink "ChannelSchedule$Plan" 38 "ChannelSchedule$Plan" "starts" "[I" ∈ LW := LW_i 201 (by decide +kernel) (by decide +kernel)
theorem f1_41 : .fieldLink "ChannelSchedule$Plan" 41 "ChannelSchedule$Plan" "ends" "[I" ∈ LW := LW_i 203 (by decide +kernel) (by decide +kernel)
theorem f1_44 : .fieldLink "ChannelSchedule$Plan" 44 "ChannelSchedule$Plan" "requests" "I" ∈ LW := LW_i 205 (by decide +kernel) (by decide +kernel)
theorem f1_47 : .fieldLink "ChannelSchedule$Plan" 47 "ChannelSchedule$Plan" "waitingShips" "[I" ∈ LW := LW_i 207 (by decide +kernel) (by decide +kernel)
theorem f1_50 : .fieldLink "ChannelSchedule$Plan" 50 "ChannelSchedule$Plan" "waitingInbound" "[Z" ∈ LW := LW_i 209 (by decide +kernel) (by decide +kernel)
theorem f1_53 : .fieldLink "ChannelSchedule$Plan" 53 "ChannelSchedule$Plan" "earliest" "[I" ∈ LW := LW_i 211 (by decide +kernel) (by decide +kernel)
theorem f1_56 : .fieldLink "ChannelSchedule$Plan" 56 "ChannelSchedule$Plan" "latest" "[I" ∈ LW := LW_i 213 (by decide +kernel) (by decide +kernel)
theorem f2_9 : .fieldLink "ChannelSchedule$Script" 9 "ChannelSchedule$Script" "count" "I" ∈ LW := LW_i 105 (by decide +kernel) (by decide +kernel)
theorem f2_15 : .fieldLink "ChannelSchedule$Script" 15 "ChannelSchedule$Script" "verbs" "[I" ∈ LW := LW_i 106 (by decide +kernel) (by decide +kernel)
theorem f2_19 : .fieldLink "ChannelSchedule$Script" 19 "ChannelSchedule$Script" "ships" "[I" ∈ LW := LW_i 107 (by decide +kernel) (by decide +kernel)
theorem f2_22 : .fieldLink "ChannelSchedule$Script" 22 "ChannelSchedule$Script" "inbound" "[Z" ∈ LW := LW_i 108 (by decide +kernel) (by decide +kernel)
theorem f2_26 : .fieldLink "ChannelSchedule$Script" 26 "ChannelSchedule$Script" "firsts" "[I" ∈ LW := LW_i 109 (by decide +kernel) (by decide +kernel)
theorem f2_29 : .fieldLink "ChannelSchedule$Script" 29 "ChannelSchedule$Script" "seconds" "[I" ∈ LW := LW_i 110 (by decide +kernel) (by decide +kernel)
theorem f3_9 : .fieldLink "ChannelSchedule$Setup" 9 "ChannelSchedule$Setup" "headway" "I" ∈ LW := LW_i 158 (by decide +kernel) (by decide +kernel)
theorem f3_15 : .fieldLink "ChannelSchedule$Setup" 15 "ChannelSchedule$Setup" "clearance" "I" ∈ LW := LW_i 160 (by decide +kernel) (by decide +kernel)
theorem f3_18 : .fieldLink "ChannelSchedule$Setup" 18 "ChannelSchedule$Setup" "thickness" "I" ∈ LW := LW_i 162 (by decide +kernel) (by decide +kernel)
theorem f3_21 : .fieldLink "ChannelSchedule$Setup" 21 "ChannelSchedule$Setup" "shipCount" "I" ∈ LW := LW_i 164 (by decide +kernel) (by decide +kernel)
theorem f3_26 : .fieldLink "ChannelSchedule$Setup" 26 "ChannelSchedule$Setup" "ships" "[LChannelSchedule$Ship;" ∈ LW := LW_i 166 (by decide +kernel) (by decide +kernel)
theorem f4_9 : .fieldLink "ChannelSchedule$Ship" 9 "ChannelSchedule$Ship" "name" "[B" ∈ LW := LW_i 139 (by decide +kernel) (by decide +kernel)
theorem f4_15 : .fieldLink "ChannelSchedule$Ship" 15 "ChannelSchedule$Ship" "nameLength" "I" ∈ LW := LW_i 140 (by decide +kernel) (by decide +kernel)
theorem f4_19 : .fieldLink "ChannelSchedule$Ship" 19 "ChannelSchedule$Ship" "time" "I" ∈ LW := LW_i 141 (by decide +kernel) (by decide +kernel)
theorem f4_22 : .fieldLink "ChannelSchedule$Ship" 22 "ChannelSchedule$Ship" "iceClass" "I" ∈ LW := LW_i 143 (by decide +kernel) (by decide +kernel)
theorem f4_25 : .fieldLink "ChannelSchedule$Ship" 25 "ChannelSchedule$Ship" "weight" "I" ∈ LW := LW_i 145 (by decide +kernel) (by decide +kernel)
