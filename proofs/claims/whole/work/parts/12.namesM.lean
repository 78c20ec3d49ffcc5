/-! names of the reference -/
abbrev b6_thrown : ByteArray := prog_8_method_1_code
def y6_thrown : MethodName := ⟨"ChannelScheduleModel", "thrown", "()I"⟩
theorem w6_thrown : YV y6_thrown b6_thrown 1 (some .int) 0 := ⟨LW_i 1246 (by decide +kernel) (by decide +kernel), LW_i 1247 (by decide +kernel) (by decide +kernel), LW_i 120 (by decide +kernel) (by decide +kernel), LW_i 1248 (by decide +kernel) (by decide +kernel), by decide +kernel, by decide +kernel⟩
theorem d6_thrown_0 : decode b6_thrown 0 = .ok (.aload_n 0, 1) := by decide +kernel
theorem d6_thrown_1 : decode b6_thrown 1 = .ok (.getfield 1, 3) := by decide +kernel
theorem d6_thrown_4 : decode b6_thrown 4 = .ok (.ireturn, 1) := by decide +kernel
abbrev b6_init : ByteArray := prog_8_method_2_code
def y6_init : MethodName := ⟨"ChannelScheduleModel", "<init>", "()V"⟩
theorem w6_init : YI y6_init b6_init 3 0 := ⟨LW_i 1252 (by decide +kernel) (by decide +kernel), LW_i 120 (by decide +kernel) (by decide +kernel), LW_i 1253 (by decide +kernel) (by decide +kernel), by decide +kernel, by decide +kernel, rfl⟩
theorem d6_init_0 : decode b6_init 0 = .ok (.aload_n 0, 1) := by decide +kernel
theorem d6_init_1 : decode b6_init 1 = .ok (.invokespecial 7, 3) := by decide +kernel
theorem d6_init_4 : decode b6_init 4 = .ok (.aload_n 0, 1) := by decide +kernel
theorem d6_init_5 : decode b6_init 5 = .ok (.sipush 2300, 3) := by decide +kernel
theorem d6_init_8 : decode b6_init 8 = .ok (.newarray .int, 2) := by decide +kernel
theorem d6_init_10 : decode b6_init 10 = .ok (.putfield 13, 3) := by decide +kernel
theorem d6_init_13 : decode b6_init 13 = .ok (.aload_n 0, 1) := by decide +kernel
theorem d6_init_14 : decode b6_init 14 = .ok (.iconst 2, 1) := by decide +kernel
theorem d6_init_15 : decode b6_init 15 = .ok (.newarray .boolean, 2) := by decide +kernel
theorem d6_init_17 : decode b6_init 17 = .ok (.putfield 17, 3) := by decide +kernel
theorem d6_init_20 : decode b6_init 20 = .ok (.aload_n 0, 1) := by decide +kernel
theorem d6_init_21 : decode b6_init 21 = .ok (.iconst 0, 1) := by decide +kernel
theorem d6_init_22 : decode b6_init 22 = .ok (.putfield 21, 3) := by decide +kernel
theorem d6_init_25 : decode b6_init 25 = .ok (.aload_n 0, 1) := by decide +kernel
theorem d6_init_26 : decode b6_init 26 = .ok (.sipush 600, 3) := by decide +kernel
theorem d6_init_29 : decode b6_init 29 = .ok (.newarray .int, 2) := by decide +kernel
theorem d6_init_31 : decode b6_init 31 = .ok (.putfield 24, 3) := by decide +kernel
theorem d6_init_34 : decode b6_init 34 = .ok (.aload_n 0, 1) := by decide +kernel
theorem d6_init_35 : decode b6_init 35 = .ok (.iconst 0, 1) := by decide +kernel
theorem d6_init_36 : decode b6_init 36 = .ok (.putfield 27, 3) := by decide +kernel
theorem d6_init_39 : decode b6_init 39 = .ok (.aload_n 0, 1) := by decide +kernel
theorem d6_init_40 : decode b6_init 40 = .ok (.iconst 0, 1) := by decide +kernel
theorem d6_init_41 : decode b6_init 41 = .ok (.putfield 30, 3) := by decide +kernel
theorem d6_init_44 : decode b6_init 44 = .ok (.aload_n 0, 1) := by decide +kernel
theorem d6_init_45 : decode b6_init 45 = .ok (.iconst (-1), 1) := by decide +kernel
theorem d6_init_46 : decode b6_init 46 = .ok (.putfield 33, 3) := by decide +kernel
theorem d6_init_49 : decode b6_init 49 = .ok (.aload_n 0, 1) := by decide +kernel
theorem d6_init_50 : decode b6_init 50 = .ok (.sipush 360, 3) := by decide +kernel
theorem d6_init_53 : decode b6_init 53 = .ok (.newarray .int, 2) := by decide +kernel
theorem d6_init_55 : decode b6_init 55 = .ok (.putfield 36, 3) := by decide +kernel
theorem d6_init_58 : decode b6_init 58 = .ok (.aload_n 0, 1) := by decide +kernel
theorem d6_init_59 : decode b6_init 59 = .ok (.iconst 0, 1) := by decide +kernel
theorem d6_init_60 : decode b6_init 60 = .ok (.putfield 39, 3) := by decide +kernel
theorem d6_init_63 : decode b6_init 63 = .ok (.aload_n 0, 1) := by decide +kernel
theorem d6_init_64 : decode b6_init 64 = .ok (.iconst 0, 1) := by decide +kernel
theorem d6_init_65 : decode b6_init 65 = .ok (.putfield 1, 3) := by decide +kernel
theorem d6_init_68 : decode b6_init 68 = .ok (.aload_n 0, 1) := by decide +kernel
theorem d6_init_69 : decode b6_init 69 = .ok (.iconst 0, 1) := by decide +kernel
theorem d6_init_70 : decode b6_init 70 = .ok (.putfield 42, 3) := by decide +kernel
theorem d6_init_73 : decode b6_init 73 = .ok (.aload_n 0, 1) := by decide +kernel
theorem d6_init_74 : decode b6_init 74 = .ok (.iconst 0, 1) := by decide +kernel
theorem d6_init_75 : decode b6_init 75 = .ok (.putfield 45, 3) := by decide +kernel
theorem d6_init_78 : decode b6_init 78 = .ok (.aload_n 0, 1) := by decide +kernel
theorem d6_init_79 : decode b6_init 79 = .ok (.iconst 0, 1) := by decide +kernel
theorem d6_init_80 : decode b6_init 80 = .ok (.putfield 48, 3) := by decide +kernel
theorem d6_init_83 : decode b6_init 83 = .ok (.aload_n 0, 1) := by decide +kernel
theorem d6_init_84 : decode b6_init 84 = .ok (.iconst 0, 1) := by decide +kernel
theorem d6_init_85 : decode b6_init 85 = .ok (.putfield 51, 3) := by decide +kernel
theorem d6_init_88 : decode b6_init 88 = .ok (.aload_n 0, 1) := by decide +kernel
theorem d6_init_89 : decode b6_init 89 = .ok (.sipush 150, 3) := by decide +kernel
theorem d6_init_92 : decode b6_init 92 = .ok (.newarray .int, 2) := by decide +kernel
theorem d6_init_94 : decode b6_init 94 = .ok (.putfield 54, 3) := by decide +kernel
theorem d6_init_97 : decode b6_init 97 = .ok (.ldc 57, 2) := by decide +kernel
theorem d6_init_99 : decode b6_init 99 = .ok (.astore_n 1, 1) := by decide +kernel
theorem d6_init_100 : decode b6_init 100 = .ok (.iconst 0, 1) := by decide +kernel
theorem d6_init_101 : decode b6_init 101 = .ok (.istore_n 2, 1) := by decide +kernel
theorem d6_init_102 : decode b6_init 102 = .ok (.iload_n 2, 1) := by decide +kernel
theorem d6_init_103 : decode b6_init 103 = .ok (.aload_n 1, 1) := by decide +kernel
theorem d6_init_104 : decode b6_init 104 = .ok (.invokevirtual 59, 3) := by decide +kernel
theorem d6_init_107 : decode b6_init 107 = .ok (.if_icmp .ge 20, 3) := by decide +kernel
theorem d6_init_110 : decode b6_init 110 = .ok (.aload_n 0, 1) := by decide +kernel
theorem d6_init_111 : decode b6_init 111 = .ok (.getfield 24, 3) := by decide +kernel
theorem d6_init_114 : decode b6_init 114 = .ok (.iload_n 2, 1) := by decide +kernel
theorem d6_init_115 : decode b6_init 115 = .ok (.aload_n 1, 1) := by decide +kernel
theorem d6_init_116 : decode b6_init 116 = .ok (.iload_n 2, 1) := by decide +kernel
theorem d6_init_117 : decode b6_init 117 = .ok (.invokevirtual 64, 3) := by decide +kernel
theorem d6_init_120 : decode b6_init 120 = .ok (.iastore, 1) := by decide +kernel
theorem d6_init_121 : decode b6_init 121 = .ok (.iinc 2 1, 3) := by decide +kernel
theorem d6_init_124 : decode b6_init 124 = .ok (.goto (-22), 3) := by decide +kernel
theorem d6_init_127 : decode b6_init 127 = .ok (.aload_n 0, 1) := by decide +kernel
theorem d6_init_128 : decode b6_init 128 = .ok (.aload_n 1, 1) := by decide +kernel
theorem d6_init_129 : decode b6_init 129 = .ok (.invokevirtual 59, 3) := by decide +kernel
theorem d6_init_132 : decode b6_init 132 = .ok (.putfield 27, 3) := by decide +kernel
theorem d6_init_135 : decode b6_init 135 = .ok (.aload_n 0, 1) := by decide +kernel
theorem d6_init_136 : decode b6_init 136 = .ok (.invokevirtual 68, 3) := by decide +kernel
theorem d6_init_139 : decode b6_init 139 = .ok (.aload_n 0, 1) := by decide +kernel
theorem d6_init_140 : decode b6_init 140 = .ok (.invokevirtual 71, 3) := by decide +kernel
theorem d6_init_143 : decode b6_init 143 = .ok (.pop, 1) := by decide +kernel
theorem d6_init_144 : decode b6_init 144 = .ok (.aload_n 0, 1) := by decide +kernel
theorem d6_init_145 : decode b6_init 145 = .ok (.iconst 0, 1) := by decide +kernel
theorem d6_init_146 : decode b6_init 146 = .ok (.putfield 27, 3) := by decide +kernel
theorem d6_init_149 : decode b6_init 149 = .ok (.return_, 1) := by decide +kernel
abbrev b6_fails : ByteArray := prog_8_method_3_code
def y6_fails : MethodName := ⟨"ChannelScheduleModel", "fails", "(ZZZ)Z"⟩
theorem w6_fails : YV y6_fails b6_fails 4 (some .boolean) 3 := ⟨LW_i 1365 (by decide +kernel) (by decide +kernel), LW_i 59 (by decide +kernel) (by decide +kernel), LW_i 120 (by decide +kernel) (by decide +kernel), LW_i 1366 (by decide +kernel) (by decide +kernel), by decide +kernel, by decide +kernel⟩
theorem d6_fails_0 : decode b6_fails 0 = .ok (.aload_n 0, 1) := by decide +kernel
theorem d6_fails_1 : decode b6_fails 1 = .ok (.iload_n 1, 1) := by decide +kernel
theorem d6_fails_2 : decode b6_fails 2 = .ok (.ifCond .eq 7, 3) := by decide +kernel
theorem d6_fails_5 : decode b6_fails 5 = .ok (.iconst 1, 1) := by decide +kernel
theorem d6_fails_6 : decode b6_fails 6 = .ok (.goto 20, 3) := by decide +kernel
theorem d6_fails_9 : decode b6_fails 9 = .ok (.iload_n 2, 1) := by decide +kernel
theorem d6_fails_10 : decode b6_fails 10 = .ok (.ifCond .eq 7, 3) := by decide +kernel
theorem d6_fails_13 : decode b6_fails 13 = .ok (.iconst 2, 1) := by decide +kernel
theorem d6_fails_14 : decode b6_fails 14 = .ok (.goto 12, 3) := by decide +kernel
theorem d6_fails_17 : decode b6_fails 17 = .ok (.iload_n 3, 1) := by decide +kernel
theorem d6_fails_18 : decode b6_fails 18 = .ok (.ifCond .eq 7, 3) := by decide +kernel
theorem d6_fails_21 : decode b6_fails 21 = .ok (.iconst 3, 1) := by decide +kernel
theorem d6_fails_22 : decode b6_fails 22 = .ok (.goto 4, 3) := by decide +kernel
theorem d6_fails_25 : decode b6_fails 25 = .ok (.iconst 0, 1) := by decide +kernel
theorem d6_fails_26 : decode b6_fails 26 = .ok (.putfield 1, 3) := by decide +kernel
theorem d6_fails_29 : decode b6_fails 29 = .ok (.aload_n 0, 1) := by decide +kernel
theorem d6_fails_30 : decode b6_fails 30 = .ok (.getfield 1, 3) := by decide +kernel
theorem d6_fails_33 : decode b6_fails 33 = .ok (.ifCond .le 7, 3) := by decide +kernel
theorem d6_fails_36 : decode b6_fails 36 = .ok (.iconst 1, 1) := by decide +kernel
theorem d6_fails_37 : decode b6_fails 37 = .ok (.goto 4, 3) := by decide +kernel
theorem d6_fails_40 : decode b6_fails 40 = .ok (.iconst 0, 1) := by decide +kernel
theorem d6_fails_41 : decode b6_fails 41 = .ok (.ireturn, 1) := by decide +kernel
abbrev b6_in : ByteArray := prog_8_method_4_code
def y6_in : MethodName := ⟨"ChannelScheduleModel", "in", "(III)Z"⟩
theorem w6_in : YS y6_in b6_in 3 (some .boolean) 3 := ⟨LW_i 1290 (by decide +kernel) (by decide +kernel), LW_i 120 (by decide +kernel) (by decide +kernel), LW_i 1291 (by decide +kernel) (by decide +kernel), by decide +kernel, by decide +kernel⟩
theorem d6_in_0 : decode b6_in 0 = .ok (.iload_n 0, 1) := by decide +kernel
theorem d6_in_1 : decode b6_in 1 = .ok (.iload_n 1, 1) := by decide +kernel
theorem d6_in_2 : decode b6_in 2 = .ok (.if_icmp .lt 12, 3) := by decide +kernel
theorem d6_in_5 : decode b6_in 5 = .ok (.iload_n 0, 1) := by decide +kernel
theorem d6_in_6 : decode b6_in 6 = .ok (.iload_n 2, 1) := by decide +kernel
theorem d6_in_7 : decode b6_in 7 = .ok (.if_icmp .gt 7, 3) := by decide +kernel
theorem d6_in_10 : decode b6_in 10 = .ok (.iconst 1, 1) := by decide +kernel
theorem d6_in_11 : decode b6_in 11 = .ok (.goto 4, 3) := by decide +kernel
theorem d6_in_14 : decode b6_in 14 = .ok (.iconst 0, 1) := by decide +kernel
theorem d6_in_15 : decode b6_in 15 = .ok (.ireturn, 1) := by decide +kernel
abbrev b6_isShip : ByteArray := prog_8_method_5_code
def y6_isShip : MethodName := ⟨"ChannelScheduleModel", "isShip", "(I)Z"⟩
theorem w6_isShip : YV y6_isShip b6_isShip 2 (some .boolean) 1 := ⟨LW_i 1577 (by decide +kernel) (by decide +kernel), LW_i 98 (by decide +kernel) (by decide +kernel), LW_i 120 (by decide +kernel) (by decide +kernel), LW_i 1578 (by decide +kernel) (by decide +kernel), by decide +kernel, by decide +kernel⟩
theorem d6_isShip_0 : decode b6_isShip 0 = .ok (.iload_n 1, 1) := by decide +kernel
theorem d6_isShip_1 : decode b6_isShip 1 = .ok (.iconst 0, 1) := by decide +kernel
theorem d6_isShip_2 : decode b6_isShip 2 = .ok (.aload_n 0, 1) := by decide +kernel
theorem d6_isShip_3 : decode b6_isShip 3 = .ok (.getfield 13, 3) := by decide +kernel
theorem d6_isShip_6 : decode b6_isShip 6 = .ok (.iconst 4, 1) := by decide +kernel
theorem d6_isShip_7 : decode b6_isShip 7 = .ok (.iaload, 1) := by decide +kernel
theorem d6_isShip_8 : decode b6_isShip 8 = .ok (.iconst 1, 1) := by decide +kernel
theorem d6_isShip_9 : decode b6_isShip 9 = .ok (.isub, 1) := by decide +kernel
theorem d6_isShip_10 : decode b6_isShip 10 = .ok (.invokestatic 75, 3) := by decide +kernel
theorem d6_isShip_13 : decode b6_isShip 13 = .ok (.ireturn, 1) := by decide +kernel
abbrev b6_isBooking : ByteArray := prog_8_method_6_code
def y6_isBooking : MethodName := ⟨"ChannelScheduleModel", "isBooking", "(I)Z"⟩
theorem w6_isBooking : YV y6_isBooking b6_isBooking 2 (some .boolean) 1 := ⟨LW_i 1481 (by decide +kernel) (by decide +kernel), LW_i 82 (by decide +kernel) (by decide +kernel), LW_i 120 (by decide +kernel) (by decide +kernel), LW_i 1482 (by decide +kernel) (by decide +kernel), by decide +kernel, by decide +kernel⟩
theorem d6_isBooking_0 : decode b6_isBooking 0 = .ok (.iload_n 1, 1) := by decide +kernel
theorem d6_isBooking_1 : decode b6_isBooking 1 = .ok (.iconst 0, 1) := by decide +kernel
theorem d6_isBooking_2 : decode b6_isBooking 2 = .ok (.aload_n 0, 1) := by decide +kernel
theorem d6_isBooking_3 : decode b6_isBooking 3 = .ok (.getfield 13, 3) := by decide +kernel
theorem d6_isBooking_6 : decode b6_isBooking 6 = .ok (.iconst 5, 1) := by decide +kernel
theorem d6_isBooking_7 : decode b6_isBooking 7 = .ok (.iaload, 1) := by decide +kernel
theorem d6_isBooking_8 : decode b6_isBooking 8 = .ok (.iconst 1, 1) := by decide +kernel
theorem d6_isBooking_9 : decode b6_isBooking 9 = .ok (.isub, 1) := by decide +kernel
theorem d6_isBooking_10 : decode b6_isBooking 10 = .ok (.invokestatic 75, 3) := by decide +kernel
theorem d6_isBooking_13 : decode b6_isBooking 13 = .ok (.ireturn, 1) := by decide +kernel
abbrev b6_isRequest : ByteArray := prog_8_method_7_code
def y6_isRequest : MethodName := ⟨"ChannelScheduleModel", "isRequest", "(I)Z"⟩
theorem w6_isRequest : YV y6_isRequest b6_isRequest 2 (some .boolean) 1 := ⟨LW_i 1525 (by decide +kernel) (by decide +kernel), LW_i 93 (by decide +kernel) (by decide +kernel), LW_i 120 (by decide +kernel) (by decide +kernel), LW_i 1526 (by decide +kernel) (by decide +kernel), by decide +kernel, by decide +kernel⟩
theorem d6_isRequest_0 : decode b6_isRequest 0 = .ok (.iload_n 1, 1) := by decide +kernel
theorem d6_isRequest_1 : decode b6_isRequest 1 = .ok (.iconst 0, 1) := by decide +kernel
theorem d6_isRequest_2 : decode b6_isRequest 2 = .ok (.aload_n 0, 1) := by decide +kernel
theorem d6_isRequest_3 : decode b6_isRequest 3 = .ok (.getfield 13, 3) := by decide +kernel
theorem d6_isRequest_6 : decode b6_isRequest 6 = .ok (.bipush 6, 2) := by decide +kernel
theorem d6_isRequest_8 : decode b6_isRequest 8 = .ok (.iaload, 1) := by decide +kernel
theorem d6_isRequest_9 : decode b6_isRequest 9 = .ok (.iconst 1, 1) := by decide +kernel
theorem d6_isRequest_10 : decode b6_isRequest 10 = .ok (.isub, 1) := by decide +kernel
theorem d6_isRequest_11 : decode b6_isRequest 11 = .ok (.invokestatic 75, 3) := by decide +kernel
theorem d6_isRequest_14 : decode b6_isRequest 14 = .ok (.ireturn, 1) := by decide +kernel
abbrev b6_ofShip : ByteArray := prog_8_method_8_code
def y6_ofShip : MethodName := ⟨"ChannelScheduleModel", "ofShip", "(II)I"⟩
theorem w6_ofShip : YV y6_ofShip b6_ofShip 3 (some .int) 2 := ⟨LW_i 1311 (by decide +kernel) (by decide +kernel), LW_i 58 (by decide +kernel) (by decide +kernel), LW_i 120 (by decide +kernel) (by decide +kernel), LW_i 1312 (by decide +kernel) (by decide +kernel), by decide +kernel, by decide +kernel⟩
theorem d6_ofShip_0 : decode b6_ofShip 0 = .ok (.aload_n 0, 1) := by decide +kernel
theorem d6_ofShip_1 : decode b6_ofShip 1 = .ok (.getfield 13, 3) := by decide +kernel
theorem d6_ofShip_4 : decode b6_ofShip 4 = .ok (.bipush 10, 2) := by decide +kernel
theorem d6_ofShip_6 : decode b6_ofShip 6 = .ok (.iload_n 1, 1) := by decide +kernel
theorem d6_ofShip_7 : decode b6_ofShip 7 = .ok (.bipush 10, 2) := by decide +kernel
theorem d6_ofShip_9 : decode b6_ofShip 9 = .ok (.imul, 1) := by decide +kernel
theorem d6_ofShip_10 : decode b6_ofShip 10 = .ok (.iadd, 1) := by decide +kernel
theorem d6_ofShip_11 : decode b6_ofShip 11 = .ok (.iload_n 2, 1) := by decide +kernel
theorem d6_ofShip_12 : decode b6_ofShip 12 = .ok (.iadd, 1) := by decide +kernel
theorem d6_ofShip_13 : decode b6_ofShip 13 = .ok (.iaload, 1) := by decide +kernel
theorem d6_ofShip_14 : decode b6_ofShip 14 = .ok (.ireturn, 1) := by decide +kernel
abbrev b6_ofBooking : ByteArray := prog_8_method_9_code
def y6_ofBooking : MethodName := ⟨"ChannelScheduleModel", "ofBooking", "(II)I"⟩
theorem w6_ofBooking : YV y6_ofBooking b6_ofBooking 3 (some .int) 2 := ⟨LW_i 1449 (by decide +kernel) (by decide +kernel), LW_i 74 (by decide +kernel) (by decide +kernel), LW_i 120 (by decide +kernel) (by decide +kernel), LW_i 1450 (by decide +kernel) (by decide +kernel), by decide +kernel, by decide +kernel⟩
theorem d6_ofBooking_0 : decode b6_ofBooking 0 = .ok (.aload_n 0, 1) := by decide +kernel
theorem d6_ofBooking_1 : decode b6_ofBooking 1 = .ok (.getfield 13, 3) := by decide +kernel
theorem d6_ofBooking_4 : decode b6_ofBooking 4 = .ok (.bipush 110, 2) := by decide +kernel
theorem d6_ofBooking_6 : decode b6_ofBooking 6 = .ok (.iload_n 1, 1) := by decide +kernel
theorem d6_ofBooking_7 : decode b6_ofBooking 7 = .ok (.iconst 4, 1) := by decide +kernel
theorem d6_ofBooking_8 : decode b6_ofBooking 8 = .ok (.imul, 1) := by decide +kernel
theorem d6_ofBooking_9 : decode b6_ofBooking 9 = .ok (.iadd, 1) := by decide +kernel
theorem d6_ofBooking_10 : decode b6_ofBooking 10 = .ok (.iload_n 2, 1) := by decide +kernel
theorem d6_ofBooking_11 : decode b6_ofBooking 11 = .ok (.iadd, 1) := by decide +kernel
theorem d6_ofBooking_12 : decode b6_ofBooking 12 = .ok (.iaload, 1) := by decide +kernel
theorem d6_ofBooking_13 : decode b6_ofBooking 13 = .ok (.ireturn, 1) := by decide +kernel
abbrev b6_ofRequest : ByteArray := prog_8_method_10_code
def y6_ofRequest : MethodName := ⟨"ChannelScheduleModel", "ofRequest", "(II)I"⟩
theorem w6_ofRequest : YV y6_ofRequest b6_ofRequest 3 (some .int) 2 := ⟨LW_i 1501 (by decide +kernel) (by decide +kernel), LW_i 87 (by decide +kernel) (by decide +kernel), LW_i 120 (by decide +kernel) (by decide +kernel), LW_i 1502 (by decide +kernel) (by decide +kernel), by decide +kernel, by decide +kernel⟩
theorem d6_ofRequest_0 : decode b6_ofRequest 0 = .ok (.aload_n 0, 1) := by decide +kernel
theorem d6_ofRequest_1 : decode b6_ofRequest 1 = .ok (.getfield 13, 3) := by decide +kernel
theorem d6_ofRequest_4 : decode b6_ofRequest 4 = .ok (.sipush 194, 3) := by decide +kernel
theorem d6_ofRequest_7 : decode b6_ofRequest 7 = .ok (.iload_n 1, 1) := by decide +kernel
theorem d6_ofRequest_8 : decode b6_ofRequest 8 = .ok (.iconst 4, 1) := by decide +kernel
theorem d6_ofRequest_9 : decode b6_ofRequest 9 = .ok (.imul, 1) := by decide +kernel
theorem d6_ofRequest_10 : decode b6_ofRequest 10 = .ok (.iadd, 1) := by decide +kernel
theorem d6_ofRequest_11 : decode b6_ofRequest 11 = .ok (.iload_n 2, 1) := by decide +kernel
theorem d6_ofRequest_12 : decode b6_ofRequest 12 = .ok (.iadd, 1) := by decide +kernel
theorem d6_ofRequest_13 : decode b6_ofRequest 13 = .ok (.iaload, 1) := by decide +kernel
theorem d6_ofRequest_14 : decode b6_ofRequest 14 = .ok (.ireturn, 1) := by decide +kernel
abbrev b6_copyBlock : ByteArray := prog_8_method_11_code
def y6_copyBlock : MethodName := ⟨"ChannelScheduleModel", "copyBlock", "(II)V"⟩
theorem w6_copyBlock : YV y6_copyBlock b6_copyBlock 4 none 2 := ⟨LW_i 1381 (by decide +kernel) (by decide +kernel), LW_i 61 (by decide +kernel) (by decide +kernel), LW_i 120 (by decide +kernel) (by decide +kernel), LW_i 1382 (by decide +kernel) (by decide +kernel), by decide +kernel, by decide +kernel⟩
theorem d6_copyBlock_0 : decode b6_copyBlock 0 = .ok (.iconst 0, 1) := by decide +kernel
theorem d6_copyBlock_1 : decode b6_copyBlock 1 = .ok (.istore_n 3, 1) := by decide +kernel
theorem d6_copyBlock_2 : decode b6_copyBlock 2 = .ok (.iload_n 3, 1) := by decide +kernel
theorem d6_copyBlock_3 : decode b6_copyBlock 3 = .ok (.sipush 230, 3) := by decide +kernel
theorem d6_copyBlock_6 : decode b6_copyBlock 6 = .ok (.if_icmp .ge 33, 3) := by decide +kernel
theorem d6_copyBlock_9 : decode b6_copyBlock 9 = .ok (.aload_n 0, 1) := by decide +kernel
theorem d6_copyBlock_10 : decode b6_copyBlock 10 = .ok (.getfield 13, 3) := by decide +kernel
theorem d6_copyBlock_13 : decode b6_copyBlock 13 = .ok (.iload_n 2, 1) := by decide +kernel
theorem d6_copyBlock_14 : decode b6_copyBlock 14 = .ok (.sipush 230, 3) := by decide +kernel
theorem d6_copyBlock_17 : decode b6_copyBlock 17 = .ok (.imul, 1) := by decide +kernel
theorem d6_copyBlock_18 : decode b6_copyBlock 18 = .ok (.iload_n 3, 1) := by decide +kernel
theorem d6_copyBlock_19 : decode b6_copyBlock 19 = .ok (.iadd, 1) := by decide +kernel
theorem d6_copyBlock_20 : decode b6_copyBlock 20 = .ok (.aload_n 0, 1) := by decide +kernel
theorem d6_copyBlock_21 : decode b6_copyBlock 21 = .ok (.getfield 13, 3) := by decide +kernel
theorem d6_copyBlock_24 : decode b6_copyBlock 24 = .ok (.iload_n 1, 1) := by decide +kernel
theorem d6_copyBlock_25 : decode b6_copyBlock 25 = .ok (.sipush 230, 3) := by decide +kernel
theorem d6_copyBlock_28 : decode b6_copyBlock 28 = .ok (.imul, 1) := by decide +kernel
theorem d6_copyBlock_29 : decode b6_copyBlock 29 = .ok (.iload_n 3, 1) := by decide +kernel
theorem d6_copyBlock_30 : decode b6_copyBlock 30 = .ok (.iadd, 1) := by decide +kernel
theorem d6_copyBlock_31 : decode b6_copyBlock 31 = .ok (.iaload, 1) := by decide +kernel
theorem d6_copyBlock_32 : decode b6_copyBlock 32 = .ok (.iastore, 1) := by decide +kernel
theorem d6_copyBlock_33 : decode b6_copyBlock 33 = .ok (.iinc 3 1, 3) := by decide +kernel
theorem d6_copyBlock_36 : decode b6_copyBlock 36 = .ok (.goto (-34), 3) := by decide +kernel
theorem d6_copyBlock_39 : decode b6_copyBlock 39 = .ok (.return_, 1) := by decide +kernel
abbrev b6_remember : ByteArray := prog_8_method_12_code
def y6_remember : MethodName := ⟨"ChannelScheduleModel", "remember", "(I)V"⟩
theorem w6_remember : YV y6_remember b6_remember 3 none 1 := ⟨LW_i 1425 (by decide +kernel) (by decide +kernel), LW_i 68 (by decide +kernel) (by decide +kernel), LW_i 120 (by decide +kernel) (by decide +kernel), LW_i 1426 (by decide +kernel) (by decide +kernel), by decide +kernel, by decide +kernel⟩
theorem d6_remember_0 : decode b6_remember 0 = .ok (.aload_n 0, 1) := by decide +kernel
theorem d6_remember_1 : decode b6_remember 1 = .ok (.getfield 21, 3) := by decide +kernel
theorem d6_remember_4 : decode b6_remember 4 = .ok (.bipush 6, 2) := by decide +kernel
theorem d6_remember_6 : decode b6_remember 6 = .ok (.if_icmp .ne 35, 3) := by decide +kernel
theorem d6_remember_9 : decode b6_remember 9 = .ok (.iconst 1, 1) := by decide +kernel
theorem d6_remember_10 : decode b6_remember 10 = .ok (.istore_n 2, 1) := by decide +kernel
theorem d6_remember_11 : decode b6_remember 11 = .ok (.iload_n 2, 1) := by decide +kernel
theorem d6_remember_12 : decode b6_remember 12 = .ok (.bipush 6, 2) := by decide +kernel
theorem d6_remember_14 : decode b6_remember 14 = .ok (.if_icmp .ge 17, 3) := by decide +kernel
theorem d6_remember_17 : decode b6_remember 17 = .ok (.aload_n 0, 1) := by decide +kernel
theorem d6_remember_18 : decode b6_remember 18 = .ok (.iload_n 2, 1) := by decide +kernel
theorem d6_remember_19 : decode b6_remember 19 = .ok (.iconst 1, 1) := by decide +kernel
theorem d6_remember_20 : decode b6_remember 20 = .ok (.iadd, 1) := by decide +kernel
theorem d6_remember_21 : decode b6_remember 21 = .ok (.iload_n 2, 1) := by decide +kernel
theorem d6_remember_22 : decode b6_remember 22 = .ok (.invokevirtual 79, 3) := by decide +kernel
theorem d6_remember_25 : decode b6_remember 25 = .ok (.iinc 2 1, 3) := by decide +kernel
theorem d6_remember_28 : decode b6_remember 28 = .ok (.goto (-17), 3) := by decide +kernel
theorem d6_remember_31 : decode b6_remember 31 = .ok (.aload_n 0, 1) := by decide +kernel
theorem d6_remember_32 : decode b6_remember 32 = .ok (.dup, 1) := by decide +kernel
theorem d6_remember_33 : decode b6_remember 33 = .ok (.getfield 21, 3) := by decide +kernel
theorem d6_remember_36 : decode b6_remember 36 = .ok (.iconst 1, 1) := by decide +kernel
theorem d6_remember_37 : decode b6_remember 37 = .ok (.isub, 1) := by decide +kernel
theorem d6_remember_38 : decode b6_remember 38 = .ok (.putfield 21, 3) := by decide +kernel
theorem d6_remember_41 : decode b6_remember 41 = .ok (.aload_n 0, 1) := by decide +kernel
theorem d6_remember_42 : decode b6_remember 42 = .ok (.dup, 1) := by decide +kernel
theorem d6_remember_43 : decode b6_remember 43 = .ok (.getfield 21, 3) := by decide +kernel
theorem d6_remember_46 : decode b6_remember 46 = .ok (.iconst 1, 1) := by decide +kernel
theorem d6_remember_47 : decode b6_remember 47 = .ok (.iadd, 1) := by decide +kernel
theorem d6_remember_48 : decode b6_remember 48 = .ok (.putfield 21, 3) := by decide +kernel
theorem d6_remember_51 : decode b6_remember 51 = .ok (.aload_n 0, 1) := by decide +kernel
theorem d6_remember_52 : decode b6_remember 52 = .ok (.iload_n 1, 1) := by decide +kernel
theorem d6_remember_53 : decode b6_remember 53 = .ok (.aload_n 0, 1) := by decide +kernel
theorem d6_remember_54 : decode b6_remember 54 = .ok (.getfield 21, 3) := by decide +kernel
theorem d6_remember_57 : decode b6_remember 57 = .ok (.invokevirtual 79, 3) := by decide +kernel
theorem d6_remember_60 : decode b6_remember 60 = .ok (.return_, 1) := by decide +kernel
abbrev b6_transit : ByteArray := prog_8_method_13_code
def y6_transit : MethodName := ⟨"ChannelScheduleModel", "transit", "(I)I"⟩
theorem w6_transit : YV y6_transit b6_transit 3 (some .int) 1 := ⟨LW_i 1441 (by decide +kernel) (by decide +kernel), LW_i 72 (by decide +kernel) (by decide +kernel), LW_i 120 (by decide +kernel) (by decide +kernel), LW_i 1442 (by decide +kernel) (by decide +kernel), by decide +kernel, by decide +kernel⟩
theorem d6_transit_0 : decode b6_transit 0 = .ok (.aload_n 0, 1) := by decide +kernel
theorem d6_transit_1 : decode b6_transit 1 = .ok (.getfield 13, 3) := by decide +kernel
theorem d6_transit_4 : decode b6_transit 4 = .ok (.iconst 2, 1) := by decide +kernel
theorem d6_transit_5 : decode b6_transit 5 = .ok (.iaload, 1) := by decide +kernel
theorem d6_transit_6 : decode b6_transit 6 = .ok (.aload_n 0, 1) := by decide +kernel
theorem d6_transit_7 : decode b6_transit 7 = .ok (.iload_n 1, 1) := by decide +kernel
theorem d6_transit_8 : decode b6_transit 8 = .ok (.bipush 8, 2) := by decide +kernel
theorem d6_transit_10 : decode b6_transit 10 = .ok (.invokevirtual 83, 3) := by decide +kernel
theorem d6_transit_13 : decode b6_transit 13 = .ok (.isub, 1) := by decide +kernel
theorem d6_transit_14 : decode b6_transit 14 = .ok (.istore_n 2, 1) := by decide +kernel
theorem d6_transit_15 : decode b6_transit 15 = .ok (.aload_n 0, 1) := by decide +kernel
theorem d6_transit_16 : decode b6_transit 16 = .ok (.iload_n 1, 1) := by decide +kernel
theorem d6_transit_17 : decode b6_transit 17 = .ok (.bipush 7, 2) := by decide +kernel
theorem d6_transit_19 : decode b6_transit 19 = .ok (.invokevirtual 83, 3) := by decide +kernel
theorem d6_transit_22 : decode b6_transit 22 = .ok (.iload_n 2, 1) := by decide +kernel
theorem d6_transit_23 : decode b6_transit 23 = .ok (.ifCond .le 9, 3) := by decide +kernel
theorem d6_transit_26 : decode b6_transit 26 = .ok (.iconst 2, 1) := by decide +kernel
theorem d6_transit_27 : decode b6_transit 27 = .ok (.iload_n 2, 1) := by decide +kernel
theorem d6_transit_28 : decode b6_transit 28 = .ok (.imul, 1) := by decide +kernel
theorem d6_transit_29 : decode b6_transit 29 = .ok (.goto 4, 3) := by decide +kernel
theorem d6_transit_32 : decode b6_transit 32 = .ok (.iconst 0, 1) := by decide +kernel
theorem d6_transit_33 : decode b6_transit 33 = .ok (.iadd, 1) := by decide +kernel
theorem d6_transit_34 : decode b6_transit 34 = .ok (.ireturn, 1) := by decide +kernel
abbrev b6_conflict : ByteArray := prog_8_method_14_code
def y6_conflict : MethodName := ⟨"ChannelScheduleModel", "conflict", "(IIIIII)Z"⟩
theorem w6_conflict : YV y6_conflict b6_conflict 7 (some .boolean) 6 := ⟨LW_i 1453 (by decide +kernel) (by decide +kernel), LW_i 75 (by decide +kernel) (by decide +kernel), LW_i 120 (by decide +kernel) (by decide +kernel), LW_i 1454 (by decide +kernel) (by decide +kernel), by decide +kernel, by decide +kernel⟩
theorem d6_conflict_0 : decode b6_conflict 0 = .ok (.iload_n 2, 1) := by decide +kernel
theorem d6_conflict_1 : decode b6_conflict 1 = .ok (.iload 5, 2) := by decide +kernel
theorem d6_conflict_3 : decode b6_conflict 3 = .ok (.if_icmp .ne 5, 3) := by decide +kernel
theorem d6_conflict_6 : decode b6_conflict 6 = .ok (.iconst 1, 1) := by decide +kernel
theorem d6_conflict_7 : decode b6_conflict 7 = .ok (.ireturn, 1) := by decide +kernel
theorem d6_conflict_8 : decode b6_conflict 8 = .ok (.iload_n 2, 1) := by decide +kernel
theorem d6_conflict_9 : decode b6_conflict 9 = .ok (.iload 5, 2) := by decide +kernel
theorem d6_conflict_11 : decode b6_conflict 11 = .ok (.if_icmp .le 17, 3) := by decide +kernel
theorem d6_conflict_14 : decode b6_conflict 14 = .ok (.aload_n 0, 1) := by decide +kernel
theorem d6_conflict_15 : decode b6_conflict 15 = .ok (.iload 4, 2) := by decide +kernel
theorem d6_conflict_17 : decode b6_conflict 17 = .ok (.iload 5, 2) := by decide +kernel
theorem d6_conflict_19 : decode b6_conflict 19 = .ok (.iload 6, 2) := by decide +kernel
theorem d6_conflict_21 : decode b6_conflict 21 = .ok (.iload_n 1, 1) := by decide +kernel
theorem d6_conflict_22 : decode b6_conflict 22 = .ok (.iload_n 2, 1) := by decide +kernel
theorem d6_conflict_23 : decode b6_conflict 23 = .ok (.iload_n 3, 1) := by decide +kernel
theorem d6_conflict_24 : decode b6_conflict 24 = .ok (.invokevirtual 87, 3) := by decide +kernel
theorem d6_conflict_27 : decode b6_conflict 27 = .ok (.ireturn, 1) := by decide +kernel
theorem d6_conflict_28 : decode b6_conflict 28 = .ok (.iload_n 1, 1) := by decide +kernel
theorem d6_conflict_29 : decode b6_conflict 29 = .ok (.iload 4, 2) := by decide +kernel
theorem d6_conflict_31 : decode b6_conflict 31 = .ok (.if_icmp .eq 22, 3) := by decide +kernel
theorem d6_conflict_34 : decode b6_conflict 34 = .ok (.iload 5, 2) := by decide +kernel
theorem d6_conflict_36 : decode b6_conflict 36 = .ok (.iload_n 3, 1) := by decide +kernel
theorem d6_conflict_37 : decode b6_conflict 37 = .ok (.aload_n 0, 1) := by decide +kernel
theorem d6_conflict_38 : decode b6_conflict 38 = .ok (.getfield 13, 3) := by decide +kernel
theorem d6_conflict_41 : decode b6_conflict 41 = .ok (.iconst 1, 1) := by decide +kernel
theorem d6_conflict_42 : decode b6_conflict 42 = .ok (.iaload, 1) := by decide +kernel
theorem d6_conflict_43 : decode b6_conflict 43 = .ok (.iadd, 1) := by decide +kernel
theorem d6_conflict_44 : decode b6_conflict 44 = .ok (.if_icmp .ge 7, 3) := by decide +kernel
theorem d6_conflict_47 : decode b6_conflict 47 = .ok (.iconst 1, 1) := by decide +kernel
theorem d6_conflict_48 : decode b6_conflict 48 = .ok (.goto 4, 3) := by decide +kernel
theorem d6_conflict_51 : decode b6_conflict 51 = .ok (.iconst 0, 1) := by decide +kernel
theorem d6_conflict_52 : decode b6_conflict 52 = .ok (.ireturn, 1) := by decide +kernel
theorem d6_conflict_53 : decode b6_conflict 53 = .ok (.iload 5, 2) := by decide +kernel
theorem d6_conflict_55 : decode b6_conflict 55 = .ok (.iload_n 2, 1) := by decide +kernel
theorem d6_conflict_56 : decode b6_conflict 56 = .ok (.aload_n 0, 1) := by decide +kernel
theorem d6_conflict_57 : decode b6_conflict 57 = .ok (.getfield 13, 3) := by decide +kernel
theorem d6_conflict_60 : decode b6_conflict 60 = .ok (.iconst 0, 1) := by decide +kernel
theorem d6_conflict_61 : decode b6_conflict 61 = .ok (.iaload, 1) := by decide +kernel
theorem d6_conflict_62 : decode b6_conflict 62 = .ok (.iadd, 1) := by decide +kernel
theorem d6_conflict_63 : decode b6_conflict 63 = .ok (.if_icmp .lt 16, 3) := by decide +kernel
theorem d6_conflict_66 : decode b6_conflict 66 = .ok (.iload 6, 2) := by decide +kernel
theorem d6_conflict_68 : decode b6_conflict 68 = .ok (.iload_n 3, 1) := by decide +kernel
theorem d6_conflict_69 : decode b6_conflict 69 = .ok (.aload_n 0, 1) := by decide +kernel
theorem d6_conflict_70 : decode b6_conflict 70 = .ok (.getfield 13, 3) := by decide +kernel
theorem d6_conflict_73 : decode b6_conflict 73 = .ok (.iconst 0, 1) := by decide +kernel
theorem d6_conflict_74 : decode b6_conflict 74 = .ok (.iaload, 1) := by decide +kernel
theorem d6_conflict_75 : decode b6_conflict 75 = .ok (.iadd, 1) := by decide +kernel
theorem d6_conflict_76 : decode b6_conflict 76 = .ok (.if_icmp .ge 7, 3) := by decide +kernel
theorem d6_conflict_79 : decode b6_conflict 79 = .ok (.iconst 1, 1) := by decide +kernel
theorem d6_conflict_80 : decode b6_conflict 80 = .ok (.goto 4, 3) := by decide +kernel
theorem d6_conflict_83 : decode b6_conflict 83 = .ok (.iconst 0, 1) := by decide +kernel
theorem d6_conflict_84 : decode b6_conflict 84 = .ok (.ireturn, 1) := by decide +kernel
abbrev b6_conflictsWith : ByteArray := prog_8_method_15_code
def y6_conflictsWith : MethodName := ⟨"ChannelScheduleModel", "conflictsWith", "(IIII)Z"⟩
theorem w6_conflictsWith : YV y6_conflictsWith b6_conflictsWith 5 (some .boolean) 4 := ⟨LW_i 1445 (by decide +kernel) (by decide +kernel), LW_i 73 (by decide +kernel) (by decide +kernel), LW_i 120 (by decide +kernel) (by decide +kernel), LW_i 1446 (by decide +kernel) (by decide +kernel), by decide +kernel, by decide +kernel⟩
theorem d6_conflictsWith_0 : decode b6_conflictsWith 0 = .ok (.aload_n 0, 1) := by decide +kernel
theorem d6_conflictsWith_1 : decode b6_conflictsWith 1 = .ok (.aload_n 0, 1) := by decide +kernel
theorem d6_conflictsWith_2 : decode b6_conflictsWith 2 = .ok (.iload_n 1, 1) := by decide +kernel
theorem d6_conflictsWith_3 : decode b6_conflictsWith 3 = .ok (.iconst 1, 1) := by decide +kernel
theorem d6_conflictsWith_4 : decode b6_conflictsWith 4 = .ok (.invokevirtual 91, 3) := by decide +kernel
theorem d6_conflictsWith_7 : decode b6_conflictsWith 7 = .ok (.aload_n 0, 1) := by decide +kernel
theorem d6_conflictsWith_8 : decode b6_conflictsWith 8 = .ok (.iload_n 1, 1) := by decide +kernel
theorem d6_conflictsWith_9 : decode b6_conflictsWith 9 = .ok (.iconst 2, 1) := by decide +kernel
theorem d6_conflictsWith_10 : decode b6_conflictsWith 10 = .ok (.invokevirtual 91, 3) := by decide +kernel
theorem d6_conflictsWith_13 : decode b6_conflictsWith 13 = .ok (.aload_n 0, 1) := by decide +kernel
theorem d6_conflictsWith_14 : decode b6_conflictsWith 14 = .ok (.iload_n 1, 1) := by decide +kernel
theorem d6_conflictsWith_15 : decode b6_conflictsWith 15 = .ok (.iconst 3, 1) := by decide +kernel
theorem d6_conflictsWith_16 : decode b6_conflictsWith 16 = .ok (.invokevirtual 91, 3) := by decide +kernel
theorem d6_conflictsWith_19 : decode b6_conflictsWith 19 = .ok (.iload_n 2, 1) := by decide +kernel
theorem d6_conflictsWith_20 : decode b6_conflictsWith 20 = .ok (.iload_n 3, 1) := by decide +kernel
theorem d6_conflictsWith_21 : decode b6_conflictsWith 21 = .ok (.iload 4, 2) := by decide +kernel
theorem d6_conflictsWith_23 : decode b6_conflictsWith 23 = .ok (.invokevirtual 87, 3) := by decide +kernel
theorem d6_conflictsWith_26 : decode b6_conflictsWith 26 = .ok (.ireturn, 1) := by decide +kernel
abbrev b6_conflicting : ByteArray := prog_8_method_16_code
def y6_conflicting : MethodName := ⟨"ChannelScheduleModel", "conflicting", "(IIII)I"⟩
theorem w6_conflicting : YV y6_conflicting b6_conflicting 7 (some .int) 4 := ⟨LW_i 1437 (by decide +kernel) (by decide +kernel), LW_i 71 (by decide +kernel) (by decide +kernel), LW_i 120 (by decide +kernel) (by decide +kernel), LW_i 1438 (by decide +kernel) (by decide +kernel), by decide +kernel, by decide +kernel⟩
theorem d6_conflicting_0 : decode b6_conflicting 0 = .ok (.iload_n 3, 1) := by decide +kernel
theorem d6_conflicting_1 : decode b6_conflicting 1 = .ok (.aload_n 0, 1) := by decide +kernel
theorem d6_conflicting_2 : decode b6_conflicting 2 = .ok (.iload_n 1, 1) := by decide +kernel
theorem d6_conflicting_3 : decode b6_conflicting 3 = .ok (.invokevirtual 94, 3) := by decide +kernel
theorem d6_conflicting_6 : decode b6_conflicting 6 = .ok (.iadd, 1) := by decide +kernel
theorem d6_conflicting_7 : decode b6_conflicting 7 = .ok (.istore 5, 2) := by decide +kernel
theorem d6_conflicting_9 : decode b6_conflicting 9 = .ok (.iconst 0, 1) := by decide +kernel
theorem d6_conflicting_10 : decode b6_conflicting 10 = .ok (.istore 6, 2) := by decide +kernel
theorem d6_conflicting_12 : decode b6_conflicting 12 = .ok (.iload 6, 2) := by decide +kernel
theorem d6_conflicting_14 : decode b6_conflicting 14 = .ok (.aload_n 0, 1) := by decide +kernel
theorem d6_conflicting_15 : decode b6_conflicting 15 = .ok (.getfield 13, 3) := by decide +kernel
theorem d6_conflicting_18 : decode b6_conflicting 18 = .ok (.iconst 5, 1) := by decide +kernel
theorem d6_conflicting_19 : decode b6_conflicting 19 = .ok (.iaload, 1) := by decide +kernel
theorem d6_conflicting_20 : decode b6_conflicting 20 = .ok (.if_icmp .ge 32, 3) := by decide +kernel
theorem d6_conflicting_23 : decode b6_conflicting 23 = .ok (.iload 6, 2) := by decide +kernel
theorem d6_conflicting_25 : decode b6_conflicting 25 = .ok (.iload 4, 2) := by decide +kernel
theorem d6_conflicting_27 : decode b6_conflicting 27 = .ok (.if_icmp .eq 19, 3) := by decide +kernel
theorem d6_conflicting_30 : decode b6_conflicting 30 = .ok (.aload_n 0, 1) := by decide +kernel
theorem d6_conflicting_31 : decode b6_conflicting 31 = .ok (.iload 6, 2) := by decide +kernel
theorem d6_conflicting_33 : decode b6_conflicting 33 = .ok (.iload_n 2, 1) := by decide +kernel
theorem d6_conflicting_34 : decode b6_conflicting 34 = .ok (.iload_n 3, 1) := by decide +kernel
theorem d6_conflicting_35 : decode b6_conflicting 35 = .ok (.iload 5, 2) := by decide +kernel
theorem d6_conflicting_37 : decode b6_conflicting 37 = .ok (.invokevirtual 98, 3) := by decide +kernel
theorem d6_conflicting_40 : decode b6_conflicting 40 = .ok (.ifCond .eq 6, 3) := by decide +kernel
theorem d6_conflicting_43 : decode b6_conflicting 43 = .ok (.iload 6, 2) := by decide +kernel
theorem d6_conflicting_45 : decode b6_conflicting 45 = .ok (.ireturn, 1) := by decide +kernel
theorem d6_conflicting_46 : decode b6_conflicting 46 = .ok (.iinc 6 1, 3) := by decide +kernel
theorem d6_conflicting_49 : decode b6_conflicting 49 = .ok (.goto (-37), 3) := by decide +kernel
theorem d6_conflicting_52 : decode b6_conflicting 52 = .ok (.iconst (-1), 1) := by decide +kernel
theorem d6_conflicting_53 : decode b6_conflicting 53 = .ok (.ireturn, 1) := by decide +kernel
abbrev b6_earliest : ByteArray := prog_8_method_17_code
def y6_earliest : MethodName := ⟨"ChannelScheduleModel", "earliest", "(IIIII)I"⟩
theorem w6_earliest : YV y6_earliest b6_earliest 7 (some .int) 5 := ⟨LW_i 1473 (by decide +kernel) (by decide +kernel), LW_i 80 (by decide +kernel) (by decide +kernel), LW_i 120 (by decide +kernel) (by decide +kernel), LW_i 1474 (by decide +kernel) (by decide +kernel), by decide +kernel, by decide +kernel⟩
theorem d6_earliest_0 : decode b6_earliest 0 = .ok (.iload_n 3, 1) := by decide +kernel
theorem d6_earliest_1 : decode b6_earliest 1 = .ok (.istore 6, 2) := by decide +kernel
theorem d6_earliest_3 : decode b6_earliest 3 = .ok (.iload 6, 2) := by decide +kernel
theorem d6_earliest_5 : decode b6_earliest 5 = .ok (.iload 4, 2) := by decide +kernel
theorem d6_earliest_7 : decode b6_earliest 7 = .ok (.if_icmp .gt 26, 3) := by decide +kernel
theorem d6_earliest_10 : decode b6_earliest 10 = .ok (.aload_n 0, 1) := by decide +kernel
theorem d6_earliest_11 : decode b6_earliest 11 = .ok (.iload_n 1, 1) := by decide +kernel
theorem d6_earliest_12 : decode b6_earliest 12 = .ok (.iload_n 2, 1) := by decide +kernel
theorem d6_earliest_13 : decode b6_earliest 13 = .ok (.iload 6, 2) := by decide +kernel
theorem d6_earliest_15 : decode b6_earliest 15 = .ok (.iload 5, 2) := by decide +kernel
theorem d6_earliest_17 : decode b6_earliest 17 = .ok (.invokevirtual 102, 3) := by decide +kernel
theorem d6_earliest_20 : decode b6_earliest 20 = .ok (.iconst (-1), 1) := by decide +kernel
theorem d6_earliest_21 : decode b6_earliest 21 = .ok (.if_icmp .ne 6, 3) := by decide +kernel
theorem d6_earliest_24 : decode b6_earliest 24 = .ok (.iload 6, 2) := by decide +kernel
theorem d6_earliest_26 : decode b6_earliest 26 = .ok (.ireturn, 1) := by decide +kernel
theorem d6_earliest_27 : decode b6_earliest 27 = .ok (.iinc 6 1, 3) := by decide +kernel
theorem d6_earliest_30 : decode b6_earliest 30 = .ok (.goto (-27), 3) := by decide +kernel
theorem d6_earliest_33 : decode b6_earliest 33 = .ok (.iconst (-1), 1) := by decide +kernel
theorem d6_earliest_34 : decode b6_earliest 34 = .ok (.ireturn, 1) := by decide +kernel
abbrev b6_addBooking : ByteArray := prog_8_method_18_code
def y6_addBooking : MethodName := ⟨"ChannelScheduleModel", "addBooking", "(III)V"⟩
theorem w6_addBooking : YV y6_addBooking b6_addBooking 4 none 3 := ⟨LW_i 1457 (by decide +kernel) (by decide +kernel), LW_i 76 (by decide +kernel) (by decide +kernel), LW_i 120 (by decide +kernel) (by decide +kernel), LW_i 1458 (by decide +kernel) (by decide +kernel), by decide +kernel, by decide +kernel⟩
theorem d6_addBooking_0 : decode b6_addBooking 0 = .ok (.aload_n 0, 1) := by decide +kernel
theorem d6_addBooking_1 : decode b6_addBooking 1 = .ok (.iload_n 1, 1) := by decide +kernel
theorem d6_addBooking_2 : decode b6_addBooking 2 = .ok (.iload_n 2, 1) := by decide +kernel
theorem d6_addBooking_3 : decode b6_addBooking 3 = .ok (.iload_n 3, 1) := by decide +kernel
theorem d6_addBooking_4 : decode b6_addBooking 4 = .ok (.iload_n 3, 1) := by decide +kernel
theorem d6_addBooking_5 : decode b6_addBooking 5 = .ok (.aload_n 0, 1) := by decide +kernel
theorem d6_addBooking_6 : decode b6_addBooking 6 = .ok (.iload_n 1, 1) := by decide +kernel
theorem d6_addBooking_7 : decode b6_addBooking 7 = .ok (.invokevirtual 94, 3) := by decide +kernel
theorem d6_addBooking_10 : decode b6_addBooking 10 = .ok (.iadd, 1) := by decide +kernel
theorem d6_addBooking_11 : decode b6_addBooking 11 = .ok (.invokevirtual 106, 3) := by decide +kernel
theorem d6_addBooking_14 : decode b6_addBooking 14 = .ok (.aload_n 0, 1) := by decide +kernel
theorem d6_addBooking_15 : decode b6_addBooking 15 = .ok (.getfield 13, 3) := by decide +kernel
theorem d6_addBooking_18 : decode b6_addBooking 18 = .ok (.bipush 7, 2) := by decide +kernel
theorem d6_addBooking_20 : decode b6_addBooking 20 = .ok (.dup2, 1) := by decide +kernel
theorem d6_addBooking_21 : decode b6_addBooking 21 = .ok (.iaload, 1) := by decide +kernel
theorem d6_addBooking_22 : decode b6_addBooking 22 = .ok (.iconst 1, 1) := by decide +kernel
theorem d6_addBooking_23 : decode b6_addBooking 23 = .ok (.iadd, 1) := by decide +kernel
theorem d6_addBooking_24 : decode b6_addBooking 24 = .ok (.iastore, 1) := by decide +kernel
theorem d6_addBooking_25 : decode b6_addBooking 25 = .ok (.return_, 1) := by decide +kernel
abbrev b6_insert : ByteArray := prog_8_method_19_code
def y6_insert : MethodName := ⟨"ChannelScheduleModel", "insert", "(IIII)V"⟩
theorem w6_insert : YV y6_insert b6_insert 7 none 4 := ⟨LW_i 1461 (by decide +kernel) (by decide +kernel), LW_i 77 (by decide +kernel) (by decide +kernel), LW_i 120 (by decide +kernel) (by decide +kernel), LW_i 1462 (by decide +kernel) (by decide +kernel), by decide +kernel, by decide +kernel⟩
theorem d6_insert_0 : decode b6_insert 0 = .ok (.aload_n 0, 1) := by decide +kernel
theorem d6_insert_1 : decode b6_insert 1 = .ok (.getfield 13, 3) := by decide +kernel
theorem d6_insert_4 : decode b6_insert 4 = .ok (.iconst 5, 1) := by decide +kernel
theorem d6_insert_5 : decode b6_insert 5 = .ok (.iaload, 1) := by decide +kernel
theorem d6_insert_6 : decode b6_insert 6 = .ok (.istore 5, 2) := by decide +kernel
theorem d6_insert_8 : decode b6_insert 8 = .ok (.iload 5, 2) := by decide +kernel
theorem d6_insert_10 : decode b6_insert 10 = .ok (.ifCond .le 69, 3) := by decide +kernel
theorem d6_insert_13 : decode b6_insert 13 = .ok (.aload_n 0, 1) := by decide +kernel
theorem d6_insert_14 : decode b6_insert 14 = .ok (.iload 5, 2) := by decide +kernel
theorem d6_insert_16 : decode b6_insert 16 = .ok (.iconst 1, 1) := by decide +kernel
theorem d6_insert_17 : decode b6_insert 17 = .ok (.isub, 1) := by decide +kernel
theorem d6_insert_18 : decode b6_insert 18 = .ok (.iconst 2, 1) := by decide +kernel
theorem d6_insert_19 : decode b6_insert 19 = .ok (.invokevirtual 91, 3) := by decide +kernel
theorem d6_insert_22 : decode b6_insert 22 = .ok (.iload_n 3, 1) := by decide +kernel
theorem d6_insert_23 : decode b6_insert 23 = .ok (.if_icmp .le 56, 3) := by decide +kernel
theorem d6_insert_26 : decode b6_insert 26 = .ok (.iconst 0, 1) := by decide +kernel
theorem d6_insert_27 : decode b6_insert 27 = .ok (.istore 6, 2) := by decide +kernel
theorem d6_insert_29 : decode b6_insert 29 = .ok (.iload 6, 2) := by decide +kernel
theorem d6_insert_31 : decode b6_insert 31 = .ok (.iconst 4, 1) := by decide +kernel
theorem d6_insert_32 : decode b6_insert 32 = .ok (.if_icmp .ge 41, 3) := by decide +kernel
theorem d6_insert_35 : decode b6_insert 35 = .ok (.aload_n 0, 1) := by decide +kernel
theorem d6_insert_36 : decode b6_insert 36 = .ok (.getfield 13, 3) := by decide +kernel
theorem d6_insert_39 : decode b6_insert 39 = .ok (.bipush 110, 2) := by decide +kernel
theorem d6_insert_41 : decode b6_insert 41 = .ok (.iload 5, 2) := by decide +kernel
theorem d6_insert_43 : decode b6_insert 43 = .ok (.iconst 4, 1) := by decide +kernel
theorem d6_insert_44 : decode b6_insert 44 = .ok (.imul, 1) := by decide +kernel
theorem d6_insert_45 : decode b6_insert 45 = .ok (.iadd, 1) := by decide +kernel
theorem d6_insert_46 : decode b6_insert 46 = .ok (.iload 6, 2) := by decide +kernel
theorem d6_insert_48 : decode b6_insert 48 = .ok (.iadd, 1) := by decide +kernel
theorem d6_insert_49 : decode b6_insert 49 = .ok (.aload_n 0, 1) := by decide +kernel
theorem d6_insert_50 : decode b6_insert 50 = .ok (.getfield 13, 3) := by decide +kernel
theorem d6_insert_53 : decode b6_insert 53 = .ok (.bipush 110, 2) := by decide +kernel
theorem d6_insert_55 : decode b6_insert 55 = .ok (.iload 5, 2) := by decide +kernel
theorem d6_insert_57 : decode b6_insert 57 = .ok (.iconst 1, 1) := by decide +kernel
theorem d6_insert_58 : decode b6_insert 58 = .ok (.isub, 1) := by decide +kernel
theorem d6_insert_59 : decode b6_insert 59 = .ok (.iconst 4, 1) := by decide +kernel
theorem d6_insert_60 : decode b6_insert 60 = .ok (.imul, 1) := by decide +kernel
theorem d6_insert_61 : decode b6_insert 61 = .ok (.iadd, 1) := by decide +kernel
theorem d6_insert_62 : decode b6_insert 62 = .ok (.iload 6, 2) := by decide +kernel
theorem d6_insert_64 : decode b6_insert 64 = .ok (.iadd, 1) := by decide +kernel
theorem d6_insert_65 : decode b6_insert 65 = .ok (.iaload, 1) := by decide +kernel
theorem d6_insert_66 : decode b6_insert 66 = .ok (.iastore, 1) := by decide +kernel
theorem d6_insert_67 : decode b6_insert 67 = .ok (.iinc 6 1, 3) := by decide +kernel
theorem d6_insert_70 : decode b6_insert 70 = .ok (.goto (-41), 3) := by decide +kernel
theorem d6_insert_73 : decode b6_insert 73 = .ok (.iinc 5 (-1), 3) := by decide +kernel
theorem d6_insert_76 : decode b6_insert 76 = .ok (.goto (-68), 3) := by decide +kernel
theorem d6_insert_79 : decode b6_insert 79 = .ok (.aload_n 0, 1) := by decide +kernel
theorem d6_insert_80 : decode b6_insert 80 = .ok (.getfield 13, 3) := by decide +kernel
theorem d6_insert_83 : decode b6_insert 83 = .ok (.bipush 110, 2) := by decide +kernel
theorem d6_insert_85 : decode b6_insert 85 = .ok (.iload 5, 2) := by decide +kernel
theorem d6_insert_87 : decode b6_insert 87 = .ok (.iconst 4, 1) := by decide +kernel
theorem d6_insert_88 : decode b6_insert 88 = .ok (.imul, 1) := by decide +kernel
theorem d6_insert_89 : decode b6_insert 89 = .ok (.iadd, 1) := by decide +kernel
theorem d6_insert_90 : decode b6_insert 90 = .ok (.iconst 0, 1) := by decide +kernel
theorem d6_insert_91 : decode b6_insert 91 = .ok (.iadd, 1) := by decide +kernel
theorem d6_insert_92 : decode b6_insert 92 = .ok (.iload_n 1, 1) := by decide +kernel
theorem d6_insert_93 : decode b6_insert 93 = .ok (.iastore, 1) := by decide +kernel
theorem d6_insert_94 : decode b6_insert 94 = .ok (.aload_n 0, 1) := by decide +kernel
theorem d6_insert_95 : decode b6_insert 95 = .ok (.getfield 13, 3) := by decide +kernel
theorem d6_insert_98 : decode b6_insert 98 = .ok (.bipush 110, 2) := by decide +kernel
theorem d6_insert_100 : decode b6_insert 100 = .ok (.iload 5, 2) := by decide +kernel
theorem d6_insert_102 : decode b6_insert 102 = .ok (.iconst 4, 1) := by decide +kernel
theorem d6_insert_103 : decode b6_insert 103 = .ok (.imul, 1) := by decide +kernel
theorem d6_insert_104 : decode b6_insert 104 = .ok (.iadd, 1) := by decide +kernel
theorem d6_insert_105 : decode b6_insert 105 = .ok (.iconst 1, 1) := by decide +kernel
theorem d6_insert_106 : decode b6_insert 106 = .ok (.iadd, 1) := by decide +kernel
theorem d6_insert_107 : decode b6_insert 107 = .ok (.iload_n 2, 1) := by decide +kernel
theorem d6_insert_108 : decode b6_insert 108 = .ok (.iastore, 1) := by decide +kernel
theorem d6_insert_109 : decode b6_insert 109 = .ok (.aload_n 0, 1) := by decide +kernel
theorem d6_insert_110 : decode b6_insert 110 = .ok (.getfield 13, 3) := by decide +kernel
theorem d6_insert_113 : decode b6_insert 113 = .ok (.bipush 110, 2) := by decide +kernel
theorem d6_insert_115 : decode b6_insert 115 = .ok (.iload 5, 2) := by decide +kernel
theorem d6_insert_117 : decode b6_insert 117 = .ok (.iconst 4, 1) := by decide +kernel
theorem d6_insert_118 : decode b6_insert 118 = .ok (.imul, 1) := by decide +kernel
theorem d6_insert_119 : decode b6_insert 119 = .ok (.iadd, 1) := by decide +kernel
theorem d6_insert_120 : decode b6_insert 120 = .ok (.iconst 2, 1) := by decide +kernel
theorem d6_insert_121 : decode b6_insert 121 = .ok (.iadd, 1) := by decide +kernel
theorem d6_insert_122 : decode b6_insert 122 = .ok (.iload_n 3, 1) := by decide +kernel
theorem d6_insert_123 : decode b6_insert 123 = .ok (.iastore, 1) := by decide +kernel
theorem d6_insert_124 : decode b6_insert 124 = .ok (.aload_n 0, 1) := by decide +kernel
theorem d6_insert_125 : decode b6_insert 125 = .ok (.getfield 13, 3) := by decide +kernel
theorem d6_insert_128 : decode b6_insert 128 = .ok (.bipush 110, 2) := by decide +kernel
theorem d6_insert_130 : decode b6_insert 130 = .ok (.iload 5, 2) := by decide +kernel
theorem d6_insert_132 : decode b6_insert 132 = .ok (.iconst 4, 1) := by decide +kernel
theorem d6_insert_133 : decode b6_insert 133 = .ok (.imul, 1) := by decide +kernel
theorem d6_insert_134 : decode b6_insert 134 = .ok (.iadd, 1) := by decide +kernel
theorem d6_insert_135 : decode b6_insert 135 = .ok (.iconst 3, 1) := by decide +kernel
theorem d6_insert_136 : decode b6_insert 136 = .ok (.iadd, 1) := by decide +kernel
theorem d6_insert_137 : decode b6_insert 137 = .ok (.iload 4, 2) := by decide +kernel
theorem d6_insert_139 : decode b6_insert 139 = .ok (.iastore, 1) := by decide +kernel
theorem d6_insert_140 : decode b6_insert 140 = .ok (.aload_n 0, 1) := by decide +kernel
theorem d6_insert_141 : decode b6_insert 141 = .ok (.getfield 13, 3) := by decide +kernel
theorem d6_insert_144 : decode b6_insert 144 = .ok (.iconst 5, 1) := by decide +kernel
theorem d6_insert_145 : decode b6_insert 145 = .ok (.dup2, 1) := by decide +kernel
theorem d6_insert_146 : decode b6_insert 146 = .ok (.iaload, 1) := by decide +kernel
theorem d6_insert_147 : decode b6_insert 147 = .ok (.iconst 1, 1) := by decide +kernel
theorem d6_insert_148 : decode b6_insert 148 = .ok (.iadd, 1) := by decide +kernel
theorem d6_insert_149 : decode b6_insert 149 = .ok (.iastore, 1) := by decide +kernel
theorem d6_insert_150 : decode b6_insert 150 = .ok (.return_, 1) := by decide +kernel
abbrev b6_removeBooking : ByteArray := prog_8_method_20_code
def y6_removeBooking : MethodName := ⟨"ChannelScheduleModel", "removeBooking", "(I)V"⟩
theorem w6_removeBooking : YV y6_removeBooking b6_removeBooking 3 none 1 := ⟨LW_i 1493 (by decide +kernel) (by decide +kernel), LW_i 85 (by decide +kernel) (by decide +kernel), LW_i 120 (by decide +kernel) (by decide +kernel), LW_i 1494 (by decide +kernel) (by decide +kernel), by decide +kernel, by decide +kernel⟩
theorem d6_removeBooking_0 : decode b6_removeBooking 0 = .ok (.iload_n 1, 1) := by decide +kernel
theorem d6_removeBooking_1 : decode b6_removeBooking 1 = .ok (.iconst 4, 1) := by decide +kernel
theorem d6_removeBooking_2 : decode b6_removeBooking 2 = .ok (.imul, 1) := by decide +kernel
theorem d6_removeBooking_3 : decode b6_removeBooking 3 = .ok (.istore_n 2, 1) := by decide +kernel
theorem d6_removeBooking_4 : decode b6_removeBooking 4 = .ok (.iload_n 2, 1) := by decide +kernel
theorem d6_removeBooking_5 : decode b6_removeBooking 5 = .ok (.aload_n 0, 1) := by decide +kernel
theorem d6_removeBooking_6 : decode b6_removeBooking 6 = .ok (.getfield 13, 3) := by decide +kernel
theorem d6_removeBooking_9 : decode b6_removeBooking 9 = .ok (.iconst 5, 1) := by decide +kernel
theorem d6_removeBooking_10 : decode b6_removeBooking 10 = .ok (.iaload, 1) := by decide +kernel
theorem d6_removeBooking_11 : decode b6_removeBooking 11 = .ok (.iconst 1, 1) := by decide +kernel
theorem d6_removeBooking_12 : decode b6_removeBooking 12 = .ok (.isub, 1) := by decide +kernel
theorem d6_removeBooking_13 : decode b6_removeBooking 13 = .ok (.iconst 4, 1) := by decide +kernel
theorem d6_removeBooking_14 : decode b6_removeBooking 14 = .ok (.imul, 1) := by decide +kernel
theorem d6_removeBooking_15 : decode b6_removeBooking 15 = .ok (.if_icmp .ge 29, 3) := by decide +kernel
theorem d6_removeBooking_18 : decode b6_removeBooking 18 = .ok (.aload_n 0, 1) := by decide +kernel
theorem d6_removeBooking_19 : decode b6_removeBooking 19 = .ok (.getfield 13, 3) := by decide +kernel
theorem d6_removeBooking_22 : decode b6_removeBooking 22 = .ok (.bipush 110, 2) := by decide +kernel
theorem d6_removeBooking_24 : decode b6_removeBooking 24 = .ok (.iload_n 2, 1) := by decide +kernel
theorem d6_removeBooking_25 : decode b6_removeBooking 25 = .ok (.iadd, 1) := by decide +kernel
theorem d6_removeBooking_26 : decode b6_removeBooking 26 = .ok (.aload_n 0, 1) := by decide +kernel
theorem d6_removeBooking_27 : decode b6_removeBooking 27 = .ok (.getfield 13, 3) := by decide +kernel
theorem d6_removeBooking_30 : decode b6_removeBooking 30 = .ok (.bipush 110, 2) := by decide +kernel
theorem d6_removeBooking_32 : decode b6_removeBooking 32 = .ok (.iload_n 2, 1) := by decide +kernel
theorem d6_removeBooking_33 : decode b6_removeBooking 33 = .ok (.iadd, 1) := by decide +kernel
theorem d6_removeBooking_34 : decode b6_removeBooking 34 = .ok (.iconst 4, 1) := by decide +kernel
theorem d6_removeBooking_35 : decode b6_removeBooking 35 = .ok (.iadd, 1) := by decide +kernel
theorem d6_removeBooking_36 : decode b6_removeBooking 36 = .ok (.iaload, 1) := by decide +kernel
theorem d6_removeBooking_37 : decode b6_removeBooking 37 = .ok (.iastore, 1) := by decide +kernel
theorem d6_removeBooking_38 : decode b6_removeBooking 38 = .ok (.iinc 2 1, 3) := by decide +kernel
theorem d6_removeBooking_41 : decode b6_removeBooking 41 = .ok (.goto (-37), 3) := by decide +kernel
theorem d6_removeBooking_44 : decode b6_removeBooking 44 = .ok (.aload_n 0, 1) := by decide +kernel
theorem d6_removeBooking_45 : decode b6_removeBooking 45 = .ok (.getfield 13, 3) := by decide +kernel
theorem d6_removeBooking_48 : decode b6_removeBooking 48 = .ok (.iconst 5, 1) := by decide +kernel
theorem d6_removeBooking_49 : decode b6_removeBooking 49 = .ok (.dup2, 1) := by decide +kernel
theorem d6_removeBooking_50 : decode b6_removeBooking 50 = .ok (.iaload, 1) := by decide +kernel
theorem d6_removeBooking_51 : decode b6_removeBooking 51 = .ok (.iconst 1, 1) := by decide +kernel
theorem d6_removeBooking_52 : decode b6_removeBooking 52 = .ok (.isub, 1) := by decide +kernel
theorem d6_removeBooking_53 : decode b6_removeBooking 53 = .ok (.iastore, 1) := by decide +kernel
theorem d6_removeBooking_54 : decode b6_removeBooking 54 = .ok (.return_, 1) := by decide +kernel
abbrev b6_removeRequest : ByteArray := prog_8_method_21_code
def y6_removeRequest : MethodName := ⟨"ChannelScheduleModel", "removeRequest", "(I)V"⟩
theorem w6_removeRequest : YV y6_removeRequest b6_removeRequest 3 none 1 := ⟨LW_i 1505 (by decide +kernel) (by decide +kernel), LW_i 88 (by decide +kernel) (by decide +kernel), LW_i 120 (by decide +kernel) (by decide +kernel), LW_i 1506 (by decide +kernel) (by decide +kernel), by decide +kernel, by decide +kernel⟩
theorem d6_removeRequest_0 : decode b6_removeRequest 0 = .ok (.iload_n 1, 1) := by decide +kernel
theorem d6_removeRequest_1 : decode b6_removeRequest 1 = .ok (.iconst 4, 1) := by decide +kernel
theorem d6_removeRequest_2 : decode b6_removeRequest 2 = .ok (.imul, 1) := by decide +kernel
theorem d6_removeRequest_3 : decode b6_removeRequest 3 = .ok (.istore_n 2, 1) := by decide +kernel
theorem d6_removeRequest_4 : decode b6_removeRequest 4 = .ok (.iload_n 2, 1) := by decide +kernel
theorem d6_removeRequest_5 : decode b6_removeRequest 5 = .ok (.aload_n 0, 1) := by decide +kernel
theorem d6_removeRequest_6 : decode b6_removeRequest 6 = .ok (.getfield 13, 3) := by decide +kernel
theorem d6_removeRequest_9 : decode b6_removeRequest 9 = .ok (.bipush 6, 2) := by decide +kernel
theorem d6_removeRequest_11 : decode b6_removeRequest 11 = .ok (.iaload, 1) := by decide +kernel
theorem d6_removeRequest_12 : decode b6_removeRequest 12 = .ok (.iconst 1, 1) := by decide +kernel
theorem d6_removeRequest_13 : decode b6_removeRequest 13 = .ok (.isub, 1) := by decide +kernel
theorem d6_removeRequest_14 : decode b6_removeRequest 14 = .ok (.iconst 4, 1) := by decide +kernel
theorem d6_removeRequest_15 : decode b6_removeRequest 15 = .ok (.imul, 1) := by decide +kernel
theorem d6_removeRequest_16 : decode b6_removeRequest 16 = .ok (.if_icmp .ge 31, 3) := by decide +kernel
theorem d6_removeRequest_19 : decode b6_removeRequest 19 = .ok (.aload_n 0, 1) := by decide +kernel
theorem d6_removeRequest_20 : decode b6_removeRequest 20 = .ok (.getfield 13, 3) := by decide +kernel
theorem d6_removeRequest_23 : decode b6_removeRequest 23 = .ok (.sipush 194, 3) := by decide +kernel
theorem d6_removeRequest_26 : decode b6_removeRequest 26 = .ok (.iload_n 2, 1) := by decide +kernel
theorem d6_removeRequest_27 : decode b6_removeRequest 27 = .ok (.iadd, 1) := by decide +kernel
theorem d6_removeRequest_28 : decode b6_removeRequest 28 = .ok (.aload_n 0, 1) := by decide +kernel
theorem d6_removeRequest_29 : decode b6_removeRequest 29 = .ok (.getfield 13, 3) := by decide +kernel
theorem d6_removeRequest_32 : decode b6_removeRequest 32 = .ok (.sipush 194, 3) := by decide +kernel
theorem d6_removeRequest_35 : decode b6_removeRequest 35 = .ok (.iload_n 2, 1) := by decide +kernel
theorem d6_removeRequest_36 : decode b6_removeRequest 36 = .ok (.iadd, 1) := by decide +kernel
theorem d6_removeRequest_37 : decode b6_removeRequest 37 = .ok (.iconst 4, 1) := by decide +kernel
theorem d6_removeRequest_38 : decode b6_removeRequest 38 = .ok (.iadd, 1) := by decide +kernel
theorem d6_removeRequest_39 : decode b6_removeRequest 39 = .ok (.iaload, 1) := by decide +kernel
theorem d6_removeRequest_40 : decode b6_removeRequest 40 = .ok (.iastore, 1) := by decide +kernel
theorem d6_removeRequest_41 : decode b6_removeRequest 41 = .ok (.iinc 2 1, 3) := by decide +kernel
theorem d6_removeRequest_44 : decode b6_removeRequest 44 = .ok (.goto (-40), 3) := by decide +kernel
theorem d6_removeRequest_47 : decode b6_removeRequest 47 = .ok (.aload_n 0, 1) := by decide +kernel
theorem d6_removeRequest_48 : decode b6_removeRequest 48 = .ok (.getfield 13, 3) := by decide +kernel
theorem d6_removeRequest_51 : decode b6_removeRequest 51 = .ok (.bipush 6, 2) := by decide +kernel
theorem d6_removeRequest_53 : decode b6_removeRequest 53 = .ok (.dup2, 1) := by decide +kernel
theorem d6_removeRequest_54 : decode b6_removeRequest 54 = .ok (.iaload, 1) := by decide +kernel
theorem d6_removeRequest_55 : decode b6_removeRequest 55 = .ok (.iconst 1, 1) := by decide +kernel
theorem d6_removeRequest_56 : decode b6_removeRequest 56 = .ok (.isub, 1) := by decide +kernel
theorem d6_removeRequest_57 : decode b6_removeRequest 57 = .ok (.iastore, 1) := by decide +kernel
theorem d6_removeRequest_58 : decode b6_removeRequest 58 = .ok (.return_, 1) := by decide +kernel
abbrev b6_servingMinute : ByteArray := prog_8_method_22_code
def y6_servingMinute : MethodName := ⟨"ChannelScheduleModel", "servingMinute", "(IIII)I"⟩
theorem w6_servingMinute : YV y6_servingMinute b6_servingMinute 5 (some .int) 4 := ⟨LW_i 1469 (by decide +kernel) (by decide +kernel), LW_i 79 (by decide +kernel) (by decide +kernel), LW_i 120 (by decide +kernel) (by decide +kernel), LW_i 1470 (by decide +kernel) (by decide +kernel), by decide +kernel, by decide +kernel⟩
theorem d6_servingMinute_0 : decode b6_servingMinute 0 = .ok (.aload_n 0, 1) := by decide +kernel
theorem d6_servingMinute_1 : decode b6_servingMinute 1 = .ok (.getfield 13, 3) := by decide +kernel
theorem d6_servingMinute_4 : decode b6_servingMinute 4 = .ok (.iconst 5, 1) := by decide +kernel
theorem d6_servingMinute_5 : decode b6_servingMinute 5 = .ok (.iaload, 1) := by decide +kernel
theorem d6_servingMinute_6 : decode b6_servingMinute 6 = .ok (.bipush 20, 2) := by decide +kernel
theorem d6_servingMinute_8 : decode b6_servingMinute 8 = .ok (.if_icmp .ne 5, 3) := by decide +kernel
theorem d6_servingMinute_11 : decode b6_servingMinute 11 = .ok (.iconst (-1), 1) := by decide +kernel
theorem d6_servingMinute_12 : decode b6_servingMinute 12 = .ok (.ireturn, 1) := by decide +kernel
theorem d6_servingMinute_13 : decode b6_servingMinute 13 = .ok (.aload_n 0, 1) := by decide +kernel
theorem d6_servingMinute_14 : decode b6_servingMinute 14 = .ok (.iload_n 1, 1) := by decide +kernel
theorem d6_servingMinute_15 : decode b6_servingMinute 15 = .ok (.iload_n 2, 1) := by decide +kernel
theorem d6_servingMinute_16 : decode b6_servingMinute 16 = .ok (.iload_n 3, 1) := by decide +kernel
theorem d6_servingMinute_17 : decode b6_servingMinute 17 = .ok (.aload_n 0, 1) := by decide +kernel
theorem d6_servingMinute_18 : decode b6_servingMinute 18 = .ok (.getfield 13, 3) := by decide +kernel
theorem d6_servingMinute_21 : decode b6_servingMinute 21 = .ok (.iconst 3, 1) := by decide +kernel
theorem d6_servingMinute_22 : decode b6_servingMinute 22 = .ok (.iaload, 1) := by decide +kernel
theorem d6_servingMinute_23 : decode b6_servingMinute 23 = .ok (.if_icmp .le 7, 3) := by decide +kernel
theorem d6_servingMinute_26 : decode b6_servingMinute 26 = .ok (.iload_n 3, 1) := by decide +kernel
theorem d6_servingMinute_27 : decode b6_servingMinute 27 = .ok (.goto 9, 3) := by decide +kernel
theorem d6_servingMinute_30 : decode b6_servingMinute 30 = .ok (.aload_n 0, 1) := by decide +kernel
theorem d6_servingMinute_31 : decode b6_servingMinute 31 = .ok (.getfield 13, 3) := by decide +kernel
theorem d6_servingMinute_34 : decode b6_servingMinute 34 = .ok (.iconst 3, 1) := by decide +kernel
theorem d6_servingMinute_35 : decode b6_servingMinute 35 = .ok (.iaload, 1) := by decide +kernel
theorem d6_servingMinute_36 : decode b6_servingMinute 36 = .ok (.iload 4, 2) := by decide +kernel
theorem d6_servingMinute_38 : decode b6_servingMinute 38 = .ok (.iconst (-1), 1) := by decide +kernel
theorem d6_servingMinute_39 : decode b6_servingMinute 39 = .ok (.invokevirtual 110, 3) := by decide +kernel
theorem d6_servingMinute_42 : decode b6_servingMinute 42 = .ok (.ireturn, 1) := by decide +kernel
abbrev b6_process : ByteArray := prog_8_method_23_code
def y6_process : MethodName := ⟨"ChannelScheduleModel", "process", "()I"⟩
theorem w6_process : YV y6_process b6_process 6 (some .int) 0 := ⟨LW_i 1497 (by decide +kernel) (by decide +kernel), LW_i 86 (by decide +kernel) (by decide +kernel), LW_i 120 (by decide +kernel) (by decide +kernel), LW_i 1498 (by decide +kernel) (by decide +kernel), by decide +kernel, by decide +kernel⟩
theorem d6_process_0 : decode b6_process 0 = .ok (.iconst 0, 1) := by decide +kernel
theorem d6_process_1 : decode b6_process 1 = .ok (.istore_n 1, 1) := by decide +kernel
theorem d6_process_2 : decode b6_process 2 = .ok (.iconst 0, 1) := by decide +kernel
theorem d6_process_3 : decode b6_process 3 = .ok (.istore_n 2, 1) := by decide +kernel
theorem d6_process_4 : decode b6_process 4 = .ok (.iload_n 2, 1) := by decide +kernel
theorem d6_process_5 : decode b6_process 5 = .ok (.aload_n 0, 1) := by decide +kernel
theorem d6_process_6 : decode b6_process 6 = .ok (.getfield 13, 3) := by decide +kernel
theorem d6_process_9 : decode b6_process 9 = .ok (.bipush 6, 2) := by decide +kernel
theorem d6_process_11 : decode b6_process 11 = .ok (.iaload, 1) := by decide +kernel
theorem d6_process_12 : decode b6_process 12 = .ok (.if_icmp .ge 71, 3) := by decide +kernel
theorem d6_process_15 : decode b6_process 15 = .ok (.aload_n 0, 1) := by decide +kernel
theorem d6_process_16 : decode b6_process 16 = .ok (.iload_n 2, 1) := by decide +kernel
theorem d6_process_17 : decode b6_process 17 = .ok (.iconst 0, 1) := by decide +kernel
theorem d6_process_18 : decode b6_process 18 = .ok (.invokevirtual 114, 3) := by decide +kernel
theorem d6_process_21 : decode b6_process 21 = .ok (.istore_n 3, 1) := by decide +kernel
theorem d6_process_22 : decode b6_process 22 = .ok (.aload_n 0, 1) := by decide +kernel
theorem d6_process_23 : decode b6_process 23 = .ok (.iload_n 2, 1) := by decide +kernel
theorem d6_process_24 : decode b6_process 24 = .ok (.iconst 1, 1) := by decide +kernel
theorem d6_process_25 : decode b6_process 25 = .ok (.invokevirtual 114, 3) := by decide +kernel
theorem d6_process_28 : decode b6_process 28 = .ok (.istore 4, 2) := by decide +kernel
theorem d6_process_30 : decode b6_process 30 = .ok (.aload_n 0, 1) := by decide +kernel
theorem d6_process_31 : decode b6_process 31 = .ok (.iload_n 3, 1) := by decide +kernel
theorem d6_process_32 : decode b6_process 32 = .ok (.iload 4, 2) := by decide +kernel
theorem d6_process_34 : decode b6_process 34 = .ok (.aload_n 0, 1) := by decide +kernel
theorem d6_process_35 : decode b6_process 35 = .ok (.iload_n 2, 1) := by decide +kernel
theorem d6_process_36 : decode b6_process 36 = .ok (.iconst 2, 1) := by decide +kernel
theorem d6_process_37 : decode b6_process 37 = .ok (.invokevirtual 114, 3) := by decide +kernel
theorem d6_process_40 : decode b6_process 40 = .ok (.aload_n 0, 1) := by decide +kernel
theorem d6_process_41 : decode b6_process 41 = .ok (.iload_n 2, 1) := by decide +kernel
theorem d6_process_42 : decode b6_process 42 = .ok (.iconst 3, 1) := by decide +kernel
theorem d6_process_43 : decode b6_process 43 = .ok (.invokevirtual 114, 3) := by decide +kernel
theorem d6_process_46 : decode b6_process 46 = .ok (.invokevirtual 117, 3) := by decide +kernel
theorem d6_process_49 : decode b6_process 49 = .ok (.istore 5, 2) := by decide +kernel
theorem d6_process_51 : decode b6_process 51 = .ok (.iload 5, 2) := by decide +kernel
theorem d6_process_53 : decode b6_process 53 = .ok (.iconst (-1), 1) := by decide +kernel
theorem d6_process_54 : decode b6_process 54 = .ok (.if_icmp .ne 9, 3) := by decide +kernel
theorem d6_process_57 : decode b6_process 57 = .ok (.iinc 2 1, 3) := by decide +kernel
theorem d6_process_60 : decode b6_process 60 = .ok (.goto (-56), 3) := by decide +kernel
theorem d6_process_63 : decode b6_process 63 = .ok (.aload_n 0, 1) := by decide +kernel
theorem d6_process_64 : decode b6_process 64 = .ok (.iload_n 3, 1) := by decide +kernel
theorem d6_process_65 : decode b6_process 65 = .ok (.iload 4, 2) := by decide +kernel
theorem d6_process_67 : decode b6_process 67 = .ok (.iload 5, 2) := by decide +kernel
theorem d6_process_69 : decode b6_process 69 = .ok (.invokevirtual 120, 3) := by decide +kernel
theorem d6_process_72 : decode b6_process 72 = .ok (.aload_n 0, 1) := by decide +kernel
theorem d6_process_73 : decode b6_process 73 = .ok (.iload_n 2, 1) := by decide +kernel
theorem d6_process_74 : decode b6_process 74 = .ok (.invokevirtual 124, 3) := by decide +kernel
theorem d6_process_77 : decode b6_process 77 = .ok (.iinc 1 1, 3) := by decide +kernel
theorem d6_process_80 : decode b6_process 80 = .ok (.goto (-76), 3) := by decide +kernel
theorem d6_process_83 : decode b6_process 83 = .ok (.aload_n 0, 1) := by decide +kernel
theorem d6_process_84 : decode b6_process 84 = .ok (.getfield 13, 3) := by decide +kernel
theorem d6_process_87 : decode b6_process 87 = .ok (.bipush 9, 2) := by decide +kernel
theorem d6_process_89 : decode b6_process 89 = .ok (.dup2, 1) := by decide +kernel
theorem d6_process_90 : decode b6_process 90 = .ok (.iaload, 1) := by decide +kernel
theorem d6_process_91 : decode b6_process 91 = .ok (.iload_n 1, 1) := by decide +kernel
theorem d6_process_92 : decode b6_process 92 = .ok (.iadd, 1) := by decide +kernel
theorem d6_process_93 : decode b6_process 93 = .ok (.iastore, 1) := by decide +kernel
theorem d6_process_94 : decode b6_process 94 = .ok (.iload_n 1, 1) := by decide +kernel
theorem d6_process_95 : decode b6_process 95 = .ok (.ireturn, 1) := by decide +kernel
abbrev b6_cancelIt : ByteArray := prog_8_method_24_code
def y6_cancelIt : MethodName := ⟨"ChannelScheduleModel", "cancelIt", "(I)I"⟩
theorem w6_cancelIt : YV y6_cancelIt b6_cancelIt 2 (some .int) 1 := ⟨LW_i 1489 (by decide +kernel) (by decide +kernel), LW_i 84 (by decide +kernel) (by decide +kernel), LW_i 120 (by decide +kernel) (by decide +kernel), LW_i 1490 (by decide +kernel) (by decide +kernel), by decide +kernel, by decide +kernel⟩
theorem d6_cancelIt_0 : decode b6_cancelIt 0 = .ok (.aload_n 0, 1) := by decide +kernel
theorem d6_cancelIt_1 : decode b6_cancelIt 1 = .ok (.iload_n 1, 1) := by decide +kernel
theorem d6_cancelIt_2 : decode b6_cancelIt 2 = .ok (.invokevirtual 128, 3) := by decide +kernel
theorem d6_cancelIt_5 : decode b6_cancelIt 5 = .ok (.aload_n 0, 1) := by decide +kernel
theorem d6_cancelIt_6 : decode b6_cancelIt 6 = .ok (.getfield 13, 3) := by decide +kernel
theorem d6_cancelIt_9 : decode b6_cancelIt 9 = .ok (.bipush 8, 2) := by decide +kernel
theorem d6_cancelIt_11 : decode b6_cancelIt 11 = .ok (.dup2, 1) := by decide +kernel
theorem d6_cancelIt_12 : decode b6_cancelIt 12 = .ok (.iaload, 1) := by decide +kernel
theorem d6_cancelIt_13 : decode b6_cancelIt 13 = .ok (.iconst 1, 1) := by decide +kernel
theorem d6_cancelIt_14 : decode b6_cancelIt 14 = .ok (.iadd, 1) := by decide +kernel
theorem d6_cancelIt_15 : decode b6_cancelIt 15 = .ok (.iastore, 1) := by decide +kernel
theorem d6_cancelIt_16 : decode b6_cancelIt 16 = .ok (.aload_n 0, 1) := by decide +kernel
theorem d6_cancelIt_17 : decode b6_cancelIt 17 = .ok (.invokevirtual 131, 3) := by decide +kernel
theorem d6_cancelIt_20 : decode b6_cancelIt 20 = .ok (.ireturn, 1) := by decide +kernel
abbrev b6_durationOf : ByteArray := prog_8_method_25_code
def y6_durationOf : MethodName := ⟨"ChannelScheduleModel", "durationOf", "(I)I"⟩
theorem w6_durationOf : YV y6_durationOf b6_durationOf 2 (some .int) 1 := ⟨LW_i 1517 (by decide +kernel) (by decide +kernel), LW_i 91 (by decide +kernel) (by decide +kernel), LW_i 120 (by decide +kernel) (by decide +kernel), LW_i 1518 (by decide +kernel) (by decide +kernel), by decide +kernel, by decide +kernel⟩
theorem d6_durationOf_0 : decode b6_durationOf 0 = .ok (.aload_n 0, 1) := by decide +kernel
theorem d6_durationOf_1 : decode b6_durationOf 1 = .ok (.iload_n 1, 1) := by decide +kernel
theorem d6_durationOf_2 : decode b6_durationOf 2 = .ok (.iconst 3, 1) := by decide +kernel
theorem d6_durationOf_3 : decode b6_durationOf 3 = .ok (.invokevirtual 91, 3) := by decide +kernel
theorem d6_durationOf_6 : decode b6_durationOf 6 = .ok (.aload_n 0, 1) := by decide +kernel
theorem d6_durationOf_7 : decode b6_durationOf 7 = .ok (.iload_n 1, 1) := by decide +kernel
theorem d6_durationOf_8 : decode b6_durationOf 8 = .ok (.iconst 2, 1) := by decide +kernel
theorem d6_durationOf_9 : decode b6_durationOf 9 = .ok (.invokevirtual 91, 3) := by decide +kernel
theorem d6_durationOf_12 : decode b6_durationOf 12 = .ok (.isub, 1) := by decide +kernel
theorem d6_durationOf_13 : decode b6_durationOf 13 = .ok (.ireturn, 1) := by decide +kernel
abbrev b6_fitsAt : ByteArray := prog_8_method_26_code
def y6_fitsAt : MethodName := ⟨"ChannelScheduleModel", "fitsAt", "(II)Z"⟩
theorem w6_fitsAt : YV y6_fitsAt b6_fitsAt 4 (some .boolean) 2 := ⟨LW_i 1513 (by decide +kernel) (by decide +kernel), LW_i 90 (by decide +kernel) (by decide +kernel), LW_i 120 (by decide +kernel) (by decide +kernel), LW_i 1514 (by decide +kernel) (by decide +kernel), by decide +kernel, by decide +kernel⟩
theorem d6_fitsAt_0 : decode b6_fitsAt 0 = .ok (.iconst 0, 1) := by decide +kernel
theorem d6_fitsAt_1 : decode b6_fitsAt 1 = .ok (.istore_n 3, 1) := by decide +kernel
theorem d6_fitsAt_2 : decode b6_fitsAt 2 = .ok (.iload_n 3, 1) := by decide +kernel
theorem d6_fitsAt_3 : decode b6_fitsAt 3 = .ok (.aload_n 0, 1) := by decide +kernel
theorem d6_fitsAt_4 : decode b6_fitsAt 4 = .ok (.getfield 13, 3) := by decide +kernel
theorem d6_fitsAt_7 : decode b6_fitsAt 7 = .ok (.iconst 5, 1) := by decide +kernel
theorem d6_fitsAt_8 : decode b6_fitsAt 8 = .ok (.iaload, 1) := by decide +kernel
theorem d6_fitsAt_9 : decode b6_fitsAt 9 = .ok (.if_icmp .ge 38, 3) := by decide +kernel
theorem d6_fitsAt_12 : decode b6_fitsAt 12 = .ok (.iload_n 3, 1) := by decide +kernel
theorem d6_fitsAt_13 : decode b6_fitsAt 13 = .ok (.iload_n 1, 1) := by decide +kernel
theorem d6_fitsAt_14 : decode b6_fitsAt 14 = .ok (.if_icmp .eq 27, 3) := by decide +kernel
theorem d6_fitsAt_17 : decode b6_fitsAt 17 = .ok (.aload_n 0, 1) := by decide +kernel
theorem d6_fitsAt_18 : decode b6_fitsAt 18 = .ok (.iload_n 3, 1) := by decide +kernel
theorem d6_fitsAt_19 : decode b6_fitsAt 19 = .ok (.aload_n 0, 1) := by decide +kernel
theorem d6_fitsAt_20 : decode b6_fitsAt 20 = .ok (.iload_n 1, 1) := by decide +kernel
theorem d6_fitsAt_21 : decode b6_fitsAt 21 = .ok (.iconst 1, 1) := by decide +kernel
theorem d6_fitsAt_22 : decode b6_fitsAt 22 = .ok (.invokevirtual 91, 3) := by decide +kernel
theorem d6_fitsAt_25 : decode b6_fitsAt 25 = .ok (.iload_n 2, 1) := by decide +kernel
theorem d6_fitsAt_26 : decode b6_fitsAt 26 = .ok (.iload_n 2, 1) := by decide +kernel
theorem d6_fitsAt_27 : decode b6_fitsAt 27 = .ok (.aload_n 0, 1) := by decide +kernel
theorem d6_fitsAt_28 : decode b6_fitsAt 28 = .ok (.iload_n 1, 1) := by decide +kernel
theorem d6_fitsAt_29 : decode b6_fitsAt 29 = .ok (.invokevirtual 134, 3) := by decide +kernel
theorem d6_fitsAt_32 : decode b6_fitsAt 32 = .ok (.iadd, 1) := by decide +kernel
theorem d6_fitsAt_33 : decode b6_fitsAt 33 = .ok (.invokevirtual 98, 3) := by decide +kernel
theorem d6_fitsAt_36 : decode b6_fitsAt 36 = .ok (.ifCond .eq 5, 3) := by decide +kernel
theorem d6_fitsAt_39 : decode b6_fitsAt 39 = .ok (.iconst 0, 1) := by decide +kernel
theorem d6_fitsAt_40 : decode b6_fitsAt 40 = .ok (.ireturn, 1) := by decide +kernel
theorem d6_fitsAt_41 : decode b6_fitsAt 41 = .ok (.iinc 3 1, 3) := by decide +kernel
theorem d6_fitsAt_44 : decode b6_fitsAt 44 = .ok (.goto (-42), 3) := by decide +kernel
theorem d6_fitsAt_47 : decode b6_fitsAt 47 = .ok (.iconst 1, 1) := by decide +kernel
theorem d6_fitsAt_48 : decode b6_fitsAt 48 = .ok (.ireturn, 1) := by decide +kernel
abbrev b6_movingReason : ByteArray := prog_8_method_27_code
def y6_movingReason : MethodName := ⟨"ChannelScheduleModel", "movingReason", "(II)I"⟩
theorem w6_movingReason : YV y6_movingReason b6_movingReason 3 (some .int) 2 := ⟨LW_i 1509 (by decide +kernel) (by decide +kernel), LW_i 89 (by decide +kernel) (by decide +kernel), LW_i 120 (by decide +kernel) (by decide +kernel), LW_i 1510 (by decide +kernel) (by decide +kernel), by decide +kernel, by decide +kernel⟩
theorem d6_movingReason_0 : decode b6_movingReason 0 = .ok (.aload_n 0, 1) := by decide +kernel
theorem d6_movingReason_1 : decode b6_movingReason 1 = .ok (.iload_n 1, 1) := by decide +kernel
theorem d6_movingReason_2 : decode b6_movingReason 2 = .ok (.invokevirtual 137, 3) := by decide +kernel
theorem d6_movingReason_5 : decode b6_movingReason 5 = .ok (.ifCond .ne 5, 3) := by decide +kernel
theorem d6_movingReason_8 : decode b6_movingReason 8 = .ok (.iconst 1, 1) := by decide +kernel
theorem d6_movingReason_9 : decode b6_movingReason 9 = .ok (.ireturn, 1) := by decide +kernel
theorem d6_movingReason_10 : decode b6_movingReason 10 = .ok (.iload_n 2, 1) := by decide +kernel
theorem d6_movingReason_11 : decode b6_movingReason 11 = .ok (.aload_n 0, 1) := by decide +kernel
theorem d6_movingReason_12 : decode b6_movingReason 12 = .ok (.getfield 13, 3) := by decide +kernel
theorem d6_movingReason_15 : decode b6_movingReason 15 = .ok (.iconst 3, 1) := by decide +kernel
theorem d6_movingReason_16 : decode b6_movingReason 16 = .ok (.iaload, 1) := by decide +kernel
theorem d6_movingReason_17 : decode b6_movingReason 17 = .ok (.if_icmp .ge 5, 3) := by decide +kernel
theorem d6_movingReason_20 : decode b6_movingReason 20 = .ok (.iconst 2, 1) := by decide +kernel
theorem d6_movingReason_21 : decode b6_movingReason 21 = .ok (.ireturn, 1) := by decide +kernel
theorem d6_movingReason_22 : decode b6_movingReason 22 = .ok (.aload_n 0, 1) := by decide +kernel
theorem d6_movingReason_23 : decode b6_movingReason 23 = .ok (.iload_n 1, 1) := by decide +kernel
theorem d6_movingReason_24 : decode b6_movingReason 24 = .ok (.iload_n 2, 1) := by decide +kernel
theorem d6_movingReason_25 : decode b6_movingReason 25 = .ok (.invokevirtual 141, 3) := by decide +kernel
theorem d6_movingReason_28 : decode b6_movingReason 28 = .ok (.ifCond .eq 7, 3) := by decide +kernel
theorem d6_movingReason_31 : decode b6_movingReason 31 = .ok (.iconst 0, 1) := by decide +kernel
theorem d6_movingReason_32 : decode b6_movingReason 32 = .ok (.goto 4, 3) := by decide +kernel
theorem d6_movingReason_35 : decode b6_movingReason 35 = .ok (.iconst 3, 1) := by decide +kernel
theorem d6_movingReason_36 : decode b6_movingReason 36 = .ok (.ireturn, 1) := by decide +kernel
abbrev b6_moveIt : ByteArray := prog_8_method_28_code
def y6_moveIt : MethodName := ⟨"ChannelScheduleModel", "moveIt", "(II)I"⟩
theorem w6_moveIt : YV y6_moveIt b6_moveIt 6 (some .int) 2 := ⟨LW_i 1521 (by decide +kernel) (by decide +kernel), LW_i 92 (by decide +kernel) (by decide +kernel), LW_i 120 (by decide +kernel) (by decide +kernel), LW_i 1522 (by decide +kernel) (by decide +kernel), by decide +kernel, by decide +kernel⟩
theorem d6_moveIt_0 : decode b6_moveIt 0 = .ok (.aload_n 0, 1) := by decide +kernel
theorem d6_moveIt_1 : decode b6_moveIt 1 = .ok (.iload_n 1, 1) := by decide +kernel
theorem d6_moveIt_2 : decode b6_moveIt 2 = .ok (.iconst 0, 1) := by decide +kernel
theorem d6_moveIt_3 : decode b6_moveIt 3 = .ok (.invokevirtual 91, 3) := by decide +kernel
theorem d6_moveIt_6 : decode b6_moveIt 6 = .ok (.istore_n 3, 1) := by decide +kernel
theorem d6_moveIt_7 : decode b6_moveIt 7 = .ok (.aload_n 0, 1) := by decide +kernel
theorem d6_moveIt_8 : decode b6_moveIt 8 = .ok (.iload_n 1, 1) := by decide +kernel
theorem d6_moveIt_9 : decode b6_moveIt 9 = .ok (.iconst 1, 1) := by decide +kernel
theorem d6_moveIt_10 : decode b6_moveIt 10 = .ok (.invokevirtual 91, 3) := by decide +kernel
theorem d6_moveIt_13 : decode b6_moveIt 13 = .ok (.istore 4, 2) := by decide +kernel
theorem d6_moveIt_15 : decode b6_moveIt 15 = .ok (.iload_n 2, 1) := by decide +kernel
theorem d6_moveIt_16 : decode b6_moveIt 16 = .ok (.aload_n 0, 1) := by decide +kernel
theorem d6_moveIt_17 : decode b6_moveIt 17 = .ok (.iload_n 1, 1) := by decide +kernel
theorem d6_moveIt_18 : decode b6_moveIt 18 = .ok (.invokevirtual 134, 3) := by decide +kernel
theorem d6_moveIt_21 : decode b6_moveIt 21 = .ok (.iadd, 1) := by decide +kernel
theorem d6_moveIt_22 : decode b6_moveIt 22 = .ok (.istore 5, 2) := by decide +kernel
theorem d6_moveIt_24 : decode b6_moveIt 24 = .ok (.aload_n 0, 1) := by decide +kernel
theorem d6_moveIt_25 : decode b6_moveIt 25 = .ok (.iload_n 1, 1) := by decide +kernel
theorem d6_moveIt_26 : decode b6_moveIt 26 = .ok (.invokevirtual 128, 3) := by decide +kernel
theorem d6_moveIt_29 : decode b6_moveIt 29 = .ok (.aload_n 0, 1) := by decide +kernel
theorem d6_moveIt_30 : decode b6_moveIt 30 = .ok (.iload_n 3, 1) := by decide +kernel
theorem d6_moveIt_31 : decode b6_moveIt 31 = .ok (.iload 4, 2) := by decide +kernel
theorem d6_moveIt_33 : decode b6_moveIt 33 = .ok (.iload_n 2, 1) := by decide +kernel
theorem d6_moveIt_34 : decode b6_moveIt 34 = .ok (.iload 5, 2) := by decide +kernel
theorem d6_moveIt_36 : decode b6_moveIt 36 = .ok (.invokevirtual 106, 3) := by decide +kernel
theorem d6_moveIt_39 : decode b6_moveIt 39 = .ok (.aload_n 0, 1) := by decide +kernel
theorem d6_moveIt_40 : decode b6_moveIt 40 = .ok (.invokevirtual 131, 3) := by decide +kernel
theorem d6_moveIt_43 : decode b6_moveIt 43 = .ok (.ireturn, 1) := by decide +kernel
abbrev b6_canBook : ByteArray := prog_8_method_29_code
def y6_canBook : MethodName := ⟨"ChannelScheduleModel", "canBook", "(III)Z"⟩
theorem w6_canBook : YV y6_canBook b6_canBook 4 (some .boolean) 3 := ⟨LW_i 1433 (by decide +kernel) (by decide +kernel), LW_i 70 (by decide +kernel) (by decide +kernel), LW_i 120 (by decide +kernel) (by decide +kernel), LW_i 1434 (by decide +kernel) (by decide +kernel), by decide +kernel, by decide +kernel⟩
theorem d6_canBook_0 : decode b6_canBook 0 = .ok (.iload_n 3, 1) := by decide +kernel
theorem d6_canBook_1 : decode b6_canBook 1 = .ok (.aload_n 0, 1) := by decide +kernel
theorem d6_canBook_2 : decode b6_canBook 2 = .ok (.getfield 13, 3) := by decide +kernel
theorem d6_canBook_5 : decode b6_canBook 5 = .ok (.iconst 3, 1) := by decide +kernel
theorem d6_canBook_6 : decode b6_canBook 6 = .ok (.iaload, 1) := by decide +kernel
theorem d6_canBook_7 : decode b6_canBook 7 = .ok (.if_icmp .lt 30, 3) := by decide +kernel
theorem d6_canBook_10 : decode b6_canBook 10 = .ok (.aload_n 0, 1) := by decide +kernel
theorem d6_canBook_11 : decode b6_canBook 11 = .ok (.getfield 13, 3) := by decide +kernel
theorem d6_canBook_14 : decode b6_canBook 14 = .ok (.iconst 5, 1) := by decide +kernel
theorem d6_canBook_15 : decode b6_canBook 15 = .ok (.iaload, 1) := by decide +kernel
theorem d6_canBook_16 : decode b6_canBook 16 = .ok (.bipush 20, 2) := by decide +kernel
theorem d6_canBook_18 : decode b6_canBook 18 = .ok (.if_icmp .ge 19, 3) := by decide +kernel
theorem d6_canBook_21 : decode b6_canBook 21 = .ok (.aload_n 0, 1) := by decide +kernel
theorem d6_canBook_22 : decode b6_canBook 22 = .ok (.iload_n 1, 1) := by decide +kernel
theorem d6_canBook_23 : decode b6_canBook 23 = .ok (.iload_n 2, 1) := by decide +kernel
theorem d6_canBook_24 : decode b6_canBook 24 = .ok (.iload_n 3, 1) := by decide +kernel
theorem d6_canBook_25 : decode b6_canBook 25 = .ok (.iconst (-1), 1) := by decide +kernel
theorem d6_canBook_26 : decode b6_canBook 26 = .ok (.invokevirtual 102, 3) := by decide +kernel
theorem d6_canBook_29 : decode b6_canBook 29 = .ok (.iconst (-1), 1) := by decide +kernel
theorem d6_canBook_30 : decode b6_canBook 30 = .ok (.if_icmp .ne 7, 3) := by decide +kernel
theorem d6_canBook_33 : decode b6_canBook 33 = .ok (.iconst 1, 1) := by decide +kernel
theorem d6_canBook_34 : decode b6_canBook 34 = .ok (.goto 4, 3) := by decide +kernel
theorem d6_canBook_37 : decode b6_canBook 37 = .ok (.iconst 0, 1) := by decide +kernel
theorem d6_canBook_38 : decode b6_canBook 38 = .ok (.ireturn, 1) := by decide +kernel
abbrev b6_canRequest : ByteArray := prog_8_method_30_code
def y6_canRequest : MethodName := ⟨"ChannelScheduleModel", "canRequest", "(IIII)Z"⟩
theorem w6_canRequest : YV y6_canRequest b6_canRequest 5 (some .boolean) 4 := ⟨LW_i 1465 (by decide +kernel) (by decide +kernel), LW_i 78 (by decide +kernel) (by decide +kernel), LW_i 120 (by decide +kernel) (by decide +kernel), LW_i 1466 (by decide +kernel) (by decide +kernel), by decide +kernel, by decide +kernel⟩
theorem d6_canRequest_0 : decode b6_canRequest 0 = .ok (.aload_n 0, 1) := by decide +kernel
theorem d6_canRequest_1 : decode b6_canRequest 1 = .ok (.getfield 13, 3) := by decide +kernel
theorem d6_canRequest_4 : decode b6_canRequest 4 = .ok (.bipush 6, 2) := by decide +kernel
theorem d6_canRequest_6 : decode b6_canRequest 6 = .ok (.iaload, 1) := by decide +kernel
theorem d6_canRequest_7 : decode b6_canRequest 7 = .ok (.bipush 8, 2) := by decide +kernel
theorem d6_canRequest_9 : decode b6_canRequest 9 = .ok (.if_icmp .lt 16, 3) := by decide +kernel
theorem d6_canRequest_12 : decode b6_canRequest 12 = .ok (.aload_n 0, 1) := by decide +kernel
theorem d6_canRequest_13 : decode b6_canRequest 13 = .ok (.iload_n 1, 1) := by decide +kernel
theorem d6_canRequest_14 : decode b6_canRequest 14 = .ok (.iload_n 2, 1) := by decide +kernel
theorem d6_canRequest_15 : decode b6_canRequest 15 = .ok (.iload_n 3, 1) := by decide +kernel
theorem d6_canRequest_16 : decode b6_canRequest 16 = .ok (.iload 4, 2) := by decide +kernel
theorem d6_canRequest_18 : decode b6_canRequest 18 = .ok (.invokevirtual 117, 3) := by decide +kernel
theorem d6_canRequest_21 : decode b6_canRequest 21 = .ok (.iconst (-1), 1) := by decide +kernel
theorem d6_canRequest_22 : decode b6_canRequest 22 = .ok (.if_icmp .eq 7, 3) := by decide +kernel
theorem d6_canRequest_25 : decode b6_canRequest 25 = .ok (.iconst 1, 1) := by decide +kernel
theorem d6_canRequest_26 : decode b6_canRequest 26 = .ok (.goto 4, 3) := by decide +kernel
theorem d6_canRequest_29 : decode b6_canRequest 29 = .ok (.iconst 0, 1) := by decide +kernel
theorem d6_canRequest_30 : decode b6_canRequest 30 = .ok (.ireturn, 1) := by decide +kernel
abbrev b6_requestIt : ByteArray := prog_8_method_31_code
def y6_requestIt : MethodName := ⟨"ChannelScheduleModel", "requestIt", "(IIII)I"⟩
theorem w6_requestIt : YV y6_requestIt b6_requestIt 7 (some .int) 4 := ⟨LW_i 1477 (by decide +kernel) (by decide +kernel), LW_i 81 (by decide +kernel) (by decide +kernel), LW_i 120 (by decide +kernel) (by decide +kernel), LW_i 1478 (by decide +kernel) (by decide +kernel), by decide +kernel, by decide +kernel⟩
theorem d6_requestIt_0 : decode b6_requestIt 0 = .ok (.aload_n 0, 1) := by decide +kernel
theorem d6_requestIt_1 : decode b6_requestIt 1 = .ok (.iload_n 1, 1) := by decide +kernel
theorem d6_requestIt_2 : decode b6_requestIt 2 = .ok (.iload_n 2, 1) := by decide +kernel
theorem d6_requestIt_3 : decode b6_requestIt 3 = .ok (.iload_n 3, 1) := by decide +kernel
theorem d6_requestIt_4 : decode b6_requestIt 4 = .ok (.iload 4, 2) := by decide +kernel
theorem d6_requestIt_6 : decode b6_requestIt 6 = .ok (.invokevirtual 117, 3) := by decide +kernel
theorem d6_requestIt_9 : decode b6_requestIt 9 = .ok (.istore 5, 2) := by decide +kernel
theorem d6_requestIt_11 : decode b6_requestIt 11 = .ok (.iload 5, 2) := by decide +kernel
theorem d6_requestIt_13 : decode b6_requestIt 13 = .ok (.iconst (-1), 1) := by decide +kernel
theorem d6_requestIt_14 : decode b6_requestIt 14 = .ok (.if_icmp .eq 14, 3) := by decide +kernel
theorem d6_requestIt_17 : decode b6_requestIt 17 = .ok (.aload_n 0, 1) := by decide +kernel
theorem d6_requestIt_18 : decode b6_requestIt 18 = .ok (.iload_n 1, 1) := by decide +kernel
theorem d6_requestIt_19 : decode b6_requestIt 19 = .ok (.iload_n 2, 1) := by decide +kernel
theorem d6_requestIt_20 : decode b6_requestIt 20 = .ok (.iload 5, 2) := by decide +kernel
theorem d6_requestIt_22 : decode b6_requestIt 22 = .ok (.invokevirtual 120, 3) := by decide +kernel
theorem d6_requestIt_25 : decode b6_requestIt 25 = .ok (.iload 5, 2) := by decide +kernel
theorem d6_requestIt_27 : decode b6_requestIt 27 = .ok (.ireturn, 1) := by decide +kernel
theorem d6_requestIt_28 : decode b6_requestIt 28 = .ok (.sipush 194, 3) := by decide +kernel
theorem d6_requestIt_31 : decode b6_requestIt 31 = .ok (.aload_n 0, 1) := by decide +kernel
theorem d6_requestIt_32 : decode b6_requestIt 32 = .ok (.getfield 13, 3) := by decide +kernel
theorem d6_requestIt_35 : decode b6_requestIt 35 = .ok (.bipush 6, 2) := by decide +kernel
theorem d6_requestIt_37 : decode b6_requestIt 37 = .ok (.iaload, 1) := by decide +kernel
theorem d6_requestIt_38 : decode b6_requestIt 38 = .ok (.iconst 4, 1) := by decide +kernel
theorem d6_requestIt_39 : decode b6_requestIt 39 = .ok (.imul, 1) := by decide +kernel
theorem d6_requestIt_40 : decode b6_requestIt 40 = .ok (.iadd, 1) := by decide +kernel
theorem d6_requestIt_41 : decode b6_requestIt 41 = .ok (.istore 6, 2) := by decide +kernel
theorem d6_requestIt_43 : decode b6_requestIt 43 = .ok (.aload_n 0, 1) := by decide +kernel
theorem d6_requestIt_44 : decode b6_requestIt 44 = .ok (.getfield 13, 3) := by decide +kernel
theorem d6_requestIt_47 : decode b6_requestIt 47 = .ok (.iload 6, 2) := by decide +kernel
theorem d6_requestIt_49 : decode b6_requestIt 49 = .ok (.iconst 0, 1) := by decide +kernel
theorem d6_requestIt_50 : decode b6_requestIt 50 = .ok (.iadd, 1) := by decide +kernel
theorem d6_requestIt_51 : decode b6_requestIt 51 = .ok (.iload_n 1, 1) := by decide +kernel
theorem d6_requestIt_52 : decode b6_requestIt 52 = .ok (.iastore, 1) := by decide +kernel
theorem d6_requestIt_53 : decode b6_requestIt 53 = .ok (.aload_n 0, 1) := by decide +kernel
theorem d6_requestIt_54 : decode b6_requestIt 54 = .ok (.getfield 13, 3) := by decide +kernel
theorem d6_requestIt_57 : decode b6_requestIt 57 = .ok (.iload 6, 2) := by decide +kernel
theorem d6_requestIt_59 : decode b6_requestIt 59 = .ok (.iconst 1, 1) := by decide +kernel
theorem d6_requestIt_60 : decode b6_requestIt 60 = .ok (.iadd, 1) := by decide +kernel
theorem d6_requestIt_61 : decode b6_requestIt 61 = .ok (.iload_n 2, 1) := by decide +kernel
theorem d6_requestIt_62 : decode b6_requestIt 62 = .ok (.iastore, 1) := by decide +kernel
theorem d6_requestIt_63 : decode b6_requestIt 63 = .ok (.aload_n 0, 1) := by decide +kernel
theorem d6_requestIt_64 : decode b6_requestIt 64 = .ok (.getfield 13, 3) := by decide +kernel
theorem d6_requestIt_67 : decode b6_requestIt 67 = .ok (.iload 6, 2) := by decide +kernel
theorem d6_requestIt_69 : decode b6_requestIt 69 = .ok (.iconst 2, 1) := by decide +kernel
theorem d6_requestIt_70 : decode b6_requestIt 70 = .ok (.iadd, 1) := by decide +kernel
theorem d6_requestIt_71 : decode b6_requestIt 71 = .ok (.iload_n 3, 1) := by decide +kernel
theorem d6_requestIt_72 : decode b6_requestIt 72 = .ok (.iastore, 1) := by decide +kernel
theorem d6_requestIt_73 : decode b6_requestIt 73 = .ok (.aload_n 0, 1) := by decide +kernel
theorem d6_requestIt_74 : decode b6_requestIt 74 = .ok (.getfield 13, 3) := by decide +kernel
theorem d6_requestIt_77 : decode b6_requestIt 77 = .ok (.iload 6, 2) := by decide +kernel
theorem d6_requestIt_79 : decode b6_requestIt 79 = .ok (.iconst 3, 1) := by decide +kernel
theorem d6_requestIt_80 : decode b6_requestIt 80 = .ok (.iadd, 1) := by decide +kernel
theorem d6_requestIt_81 : decode b6_requestIt 81 = .ok (.iload 4, 2) := by decide +kernel
theorem d6_requestIt_83 : decode b6_requestIt 83 = .ok (.iastore, 1) := by decide +kernel
theorem d6_requestIt_84 : decode b6_requestIt 84 = .ok (.aload_n 0, 1) := by decide +kernel
theorem d6_requestIt_85 : decode b6_requestIt 85 = .ok (.getfield 13, 3) := by decide +kernel
theorem d6_requestIt_88 : decode b6_requestIt 88 = .ok (.bipush 6, 2) := by decide +kernel
theorem d6_requestIt_90 : decode b6_requestIt 90 = .ok (.dup2, 1) := by decide +kernel
theorem d6_requestIt_91 : decode b6_requestIt 91 = .ok (.iaload, 1) := by decide +kernel
theorem d6_requestIt_92 : decode b6_requestIt 92 = .ok (.iconst 1, 1) := by decide +kernel
theorem d6_requestIt_93 : decode b6_requestIt 93 = .ok (.iadd, 1) := by decide +kernel
theorem d6_requestIt_94 : decode b6_requestIt 94 = .ok (.iastore, 1) := by decide +kernel
theorem d6_requestIt_95 : decode b6_requestIt 95 = .ok (.iconst (-1), 1) := by decide +kernel
theorem d6_requestIt_96 : decode b6_requestIt 96 = .ok (.ireturn, 1) := by decide +kernel
abbrev b6_iceIt : ByteArray := prog_8_method_32_code
def y6_iceIt : MethodName := ⟨"ChannelScheduleModel", "iceIt", "(I)I"⟩
theorem w6_iceIt : YV y6_iceIt b6_iceIt 2 (some .int) 1 := ⟨LW_i 1529 (by decide +kernel) (by decide +kernel), LW_i 94 (by decide +kernel) (by decide +kernel), LW_i 120 (by decide +kernel) (by decide +kernel), LW_i 1530 (by decide +kernel) (by decide +kernel), by decide +kernel, by decide +kernel⟩
theorem d6_iceIt_0 : decode b6_iceIt 0 = .ok (.aload_n 0, 1) := by decide +kernel
theorem d6_iceIt_1 : decode b6_iceIt 1 = .ok (.getfield 13, 3) := by decide +kernel
theorem d6_iceIt_4 : decode b6_iceIt 4 = .ok (.iconst 2, 1) := by decide +kernel
theorem d6_iceIt_5 : decode b6_iceIt 5 = .ok (.iload_n 1, 1) := by decide +kernel
theorem d6_iceIt_6 : decode b6_iceIt 6 = .ok (.iastore, 1) := by decide +kernel
theorem d6_iceIt_7 : decode b6_iceIt 7 = .ok (.aload_n 0, 1) := by decide +kernel
theorem d6_iceIt_8 : decode b6_iceIt 8 = .ok (.invokevirtual 131, 3) := by decide +kernel
theorem d6_iceIt_11 : decode b6_iceIt 11 = .ok (.ireturn, 1) := by decide +kernel
abbrev b6_finishedBy : ByteArray := prog_8_method_33_code
def y6_finishedBy : MethodName := ⟨"ChannelScheduleModel", "finishedBy", "(I)I"⟩
theorem w6_finishedBy : YV y6_finishedBy b6_finishedBy 4 (some .int) 1 := ⟨LW_i 1537 (by decide +kernel) (by decide +kernel), LW_i 96 (by decide +kernel) (by decide +kernel), LW_i 120 (by decide +kernel) (by decide +kernel), LW_i 1538 (by decide +kernel) (by decide +kernel), by decide +kernel, by decide +kernel⟩
theorem d6_finishedBy_0 : decode b6_finishedBy 0 = .ok (.iconst 0, 1) := by decide +kernel
theorem d6_finishedBy_1 : decode b6_finishedBy 1 = .ok (.istore_n 2, 1) := by decide +kernel
theorem d6_finishedBy_2 : decode b6_finishedBy 2 = .ok (.iconst 0, 1) := by decide +kernel
theorem d6_finishedBy_3 : decode b6_finishedBy 3 = .ok (.istore_n 3, 1) := by decide +kernel
theorem d6_finishedBy_4 : decode b6_finishedBy 4 = .ok (.iload_n 3, 1) := by decide +kernel
theorem d6_finishedBy_5 : decode b6_finishedBy 5 = .ok (.aload_n 0, 1) := by decide +kernel
theorem d6_finishedBy_6 : decode b6_finishedBy 6 = .ok (.getfield 13, 3) := by decide +kernel
theorem d6_finishedBy_9 : decode b6_finishedBy 9 = .ok (.iconst 5, 1) := by decide +kernel
theorem d6_finishedBy_10 : decode b6_finishedBy 10 = .ok (.iaload, 1) := by decide +kernel
theorem d6_finishedBy_11 : decode b6_finishedBy 11 = .ok (.if_icmp .ge 27, 3) := by decide +kernel
theorem d6_finishedBy_14 : decode b6_finishedBy 14 = .ok (.iload_n 2, 1) := by decide +kernel
theorem d6_finishedBy_15 : decode b6_finishedBy 15 = .ok (.aload_n 0, 1) := by decide +kernel
theorem d6_finishedBy_16 : decode b6_finishedBy 16 = .ok (.iload_n 3, 1) := by decide +kernel
theorem d6_finishedBy_17 : decode b6_finishedBy 17 = .ok (.iconst 3, 1) := by decide +kernel
theorem d6_finishedBy_18 : decode b6_finishedBy 18 = .ok (.invokevirtual 91, 3) := by decide +kernel
theorem d6_finishedBy_21 : decode b6_finishedBy 21 = .ok (.iload_n 1, 1) := by decide +kernel
theorem d6_finishedBy_22 : decode b6_finishedBy 22 = .ok (.if_icmp .gt 7, 3) := by decide +kernel
theorem d6_finishedBy_25 : decode b6_finishedBy 25 = .ok (.iconst 1, 1) := by decide +kernel
theorem d6_finishedBy_26 : decode b6_finishedBy 26 = .ok (.goto 4, 3) := by decide +kernel
theorem d6_finishedBy_29 : decode b6_finishedBy 29 = .ok (.iconst 0, 1) := by decide +kernel
theorem d6_finishedBy_30 : decode b6_finishedBy 30 = .ok (.iadd, 1) := by decide +kernel
theorem d6_finishedBy_31 : decode b6_finishedBy 31 = .ok (.istore_n 2, 1) := by decide +kernel
theorem d6_finishedBy_32 : decode b6_finishedBy 32 = .ok (.iinc 3 1, 3) := by decide +kernel
theorem d6_finishedBy_35 : decode b6_finishedBy 35 = .ok (.goto (-31), 3) := by decide +kernel
theorem d6_finishedBy_38 : decode b6_finishedBy 38 = .ok (.iload_n 2, 1) := by decide +kernel
theorem d6_finishedBy_39 : decode b6_finishedBy 39 = .ok (.ireturn, 1) := by decide +kernel
abbrev b6_advanceIt : ByteArray := prog_8_method_34_code
def y6_advanceIt : MethodName := ⟨"ChannelScheduleModel", "advanceIt", "(I)I"⟩
theorem w6_advanceIt : YV y6_advanceIt b6_advanceIt 3 (some .int) 1 := ⟨LW_i 1533 (by decide +kernel) (by decide +kernel), LW_i 95 (by decide +kernel) (by decide +kernel), LW_i 120 (by decide +kernel) (by decide +kernel), LW_i 1534 (by decide +kernel) (by decide +kernel), by decide +kernel, by decide +kernel⟩
theorem d6_advanceIt_0 : decode b6_advanceIt 0 = .ok (.aload_n 0, 1) := by decide +kernel
theorem d6_advanceIt_1 : decode b6_advanceIt 1 = .ok (.aload_n 0, 1) := by decide +kernel
theorem d6_advanceIt_2 : decode b6_advanceIt 2 = .ok (.getfield 13, 3) := by decide +kernel
theorem d6_advanceIt_5 : decode b6_advanceIt 5 = .ok (.iconst 3, 1) := by decide +kernel
theorem d6_advanceIt_6 : decode b6_advanceIt 6 = .ok (.iaload, 1) := by decide +kernel
theorem d6_advanceIt_7 : decode b6_advanceIt 7 = .ok (.invokevirtual 145, 3) := by decide +kernel
theorem d6_advanceIt_10 : decode b6_advanceIt 10 = .ok (.istore_n 2, 1) := by decide +kernel
theorem d6_advanceIt_11 : decode b6_advanceIt 11 = .ok (.aload_n 0, 1) := by decide +kernel
theorem d6_advanceIt_12 : decode b6_advanceIt 12 = .ok (.getfield 13, 3) := by decide +kernel
theorem d6_advanceIt_15 : decode b6_advanceIt 15 = .ok (.iconst 3, 1) := by decide +kernel
theorem d6_advanceIt_16 : decode b6_advanceIt 16 = .ok (.dup2, 1) := by decide +kernel
theorem d6_advanceIt_17 : decode b6_advanceIt 17 = .ok (.iaload, 1) := by decide +kernel
theorem d6_advanceIt_18 : decode b6_advanceIt 18 = .ok (.iload_n 1, 1) := by decide +kernel
theorem d6_advanceIt_19 : decode b6_advanceIt 19 = .ok (.iadd, 1) := by decide +kernel
theorem d6_advanceIt_20 : decode b6_advanceIt 20 = .ok (.iastore, 1) := by decide +kernel
theorem d6_advanceIt_21 : decode b6_advanceIt 21 = .ok (.aload_n 0, 1) := by decide +kernel
theorem d6_advanceIt_22 : decode b6_advanceIt 22 = .ok (.aload_n 0, 1) := by decide +kernel
theorem d6_advanceIt_23 : decode b6_advanceIt 23 = .ok (.getfield 13, 3) := by decide +kernel
theorem d6_advanceIt_26 : decode b6_advanceIt 26 = .ok (.iconst 3, 1) := by decide +kernel
theorem d6_advanceIt_27 : decode b6_advanceIt 27 = .ok (.iaload, 1) := by decide +kernel
theorem d6_advanceIt_28 : decode b6_advanceIt 28 = .ok (.invokevirtual 145, 3) := by decide +kernel
theorem d6_advanceIt_31 : decode b6_advanceIt 31 = .ok (.iload_n 2, 1) := by decide +kernel
theorem d6_advanceIt_32 : decode b6_advanceIt 32 = .ok (.isub, 1) := by decide +kernel
theorem d6_advanceIt_33 : decode b6_advanceIt 33 = .ok (.ireturn, 1) := by decide +kernel
abbrev b6_appendWord : ByteArray := prog_8_method_35_code
def y6_appendWord : MethodName := ⟨"ChannelScheduleModel", "appendWord", "(I)V"⟩
theorem w6_appendWord : YV y6_appendWord b6_appendWord 3 none 1 := ⟨LW_i 1369 (by decide +kernel) (by decide +kernel), LW_i 60 (by decide +kernel) (by decide +kernel), LW_i 120 (by decide +kernel) (by decide +kernel), LW_i 1370 (by decide +kernel) (by decide +kernel), by decide +kernel, by decide +kernel⟩
theorem d6_appendWord_0 : decode b6_appendWord 0 = .ok (.bipush 24, 2) := by decide +kernel
theorem d6_appendWord_2 : decode b6_appendWord 2 = .ok (.istore_n 2, 1) := by decide +kernel
theorem d6_appendWord_3 : decode b6_appendWord 3 = .ok (.iload_n 2, 1) := by decide +kernel
theorem d6_appendWord_4 : decode b6_appendWord 4 = .ok (.ifCond .lt 35, 3) := by decide +kernel
theorem d6_appendWord_7 : decode b6_appendWord 7 = .ok (.aload_n 0, 1) := by decide +kernel
theorem d6_appendWord_8 : decode b6_appendWord 8 = .ok (.getfield 24, 3) := by decide +kernel
theorem d6_appendWord_11 : decode b6_appendWord 11 = .ok (.aload_n 0, 1) := by decide +kernel
theorem d6_appendWord_12 : decode b6_appendWord 12 = .ok (.getfield 27, 3) := by decide +kernel
theorem d6_appendWord_15 : decode b6_appendWord 15 = .ok (.iload_n 1, 1) := by decide +kernel
theorem d6_appendWord_16 : decode b6_appendWord 16 = .ok (.iload_n 2, 1) := by decide +kernel
theorem d6_appendWord_17 : decode b6_appendWord 17 = .ok (.ishr, 1) := by decide +kernel
theorem d6_appendWord_18 : decode b6_appendWord 18 = .ok (.sipush 255, 3) := by decide +kernel
theorem d6_appendWord_21 : decode b6_appendWord 21 = .ok (.iand, 1) := by decide +kernel
theorem d6_appendWord_22 : decode b6_appendWord 22 = .ok (.iastore, 1) := by decide +kernel
theorem d6_appendWord_23 : decode b6_appendWord 23 = .ok (.aload_n 0, 1) := by decide +kernel
theorem d6_appendWord_24 : decode b6_appendWord 24 = .ok (.dup, 1) := by decide +kernel
theorem d6_appendWord_25 : decode b6_appendWord 25 = .ok (.getfield 27, 3) := by decide +kernel
theorem d6_appendWord_28 : decode b6_appendWord 28 = .ok (.iconst 1, 1) := by decide +kernel
theorem d6_appendWord_29 : decode b6_appendWord 29 = .ok (.iadd, 1) := by decide +kernel
theorem d6_appendWord_30 : decode b6_appendWord 30 = .ok (.putfield 27, 3) := by decide +kernel
theorem d6_appendWord_33 : decode b6_appendWord 33 = .ok (.iinc 2 (-8), 3) := by decide +kernel
theorem d6_appendWord_36 : decode b6_appendWord 36 = .ok (.goto (-33), 3) := by decide +kernel
theorem d6_appendWord_39 : decode b6_appendWord 39 = .ok (.return_, 1) := by decide +kernel
abbrev b6_append : ByteArray := prog_8_method_36_code
def y6_append : MethodName := ⟨"ChannelScheduleModel", "append", "(IIIII)I"⟩
theorem w6_append : YV y6_append b6_append 6 (some .int) 5 := ⟨LW_i 1360 (by decide +kernel) (by decide +kernel), LW_i 1361 (by decide +kernel) (by decide +kernel), LW_i 120 (by decide +kernel) (by decide +kernel), LW_i 1362 (by decide +kernel) (by decide +kernel), by decide +kernel, by decide +kernel⟩
theorem d6_append_0 : decode b6_append 0 = .ok (.aload_n 0, 1) := by decide +kernel
theorem d6_append_1 : decode b6_append 1 = .ok (.aload_n 0, 1) := by decide +kernel
theorem d6_append_2 : decode b6_append 2 = .ok (.getfield 27, 3) := by decide +kernel
theorem d6_append_5 : decode b6_append 5 = .ok (.bipush 20, 2) := by decide +kernel
theorem d6_append_7 : decode b6_append 7 = .ok (.iadd, 1) := by decide +kernel
theorem d6_append_8 : decode b6_append 8 = .ok (.sipush 600, 3) := by decide +kernel
theorem d6_append_11 : decode b6_append 11 = .ok (.if_icmp .le 7, 3) := by decide +kernel
theorem d6_append_14 : decode b6_append 14 = .ok (.iconst 1, 1) := by decide +kernel
theorem d6_append_15 : decode b6_append 15 = .ok (.goto 4, 3) := by decide +kernel
theorem d6_append_18 : decode b6_append 18 = .ok (.iconst 0, 1) := by decide +kernel
theorem d6_append_19 : decode b6_append 19 = .ok (.iconst 0, 1) := by decide +kernel
theorem d6_append_20 : decode b6_append 20 = .ok (.iconst 0, 1) := by decide +kernel
theorem d6_append_21 : decode b6_append 21 = .ok (.invokevirtual 148, 3) := by decide +kernel
theorem d6_append_24 : decode b6_append 24 = .ok (.ifCond .eq 5, 3) := by decide +kernel
theorem d6_append_27 : decode b6_append 27 = .ok (.iconst 0, 1) := by decide +kernel
theorem d6_append_28 : decode b6_append 28 = .ok (.ireturn, 1) := by decide +kernel
theorem d6_append_29 : decode b6_append 29 = .ok (.aload_n 0, 1) := by decide +kernel
theorem d6_append_30 : decode b6_append 30 = .ok (.iload_n 1, 1) := by decide +kernel
theorem d6_append_31 : decode b6_append 31 = .ok (.invokevirtual 152, 3) := by decide +kernel
theorem d6_append_34 : decode b6_append 34 = .ok (.aload_n 0, 1) := by decide +kernel
theorem d6_append_35 : decode b6_append 35 = .ok (.iload_n 2, 1) := by decide +kernel
theorem d6_append_36 : decode b6_append 36 = .ok (.invokevirtual 152, 3) := by decide +kernel
theorem d6_append_39 : decode b6_append 39 = .ok (.aload_n 0, 1) := by decide +kernel
theorem d6_append_40 : decode b6_append 40 = .ok (.iload_n 3, 1) := by decide +kernel
theorem d6_append_41 : decode b6_append 41 = .ok (.invokevirtual 152, 3) := by decide +kernel
theorem d6_append_44 : decode b6_append 44 = .ok (.aload_n 0, 1) := by decide +kernel
theorem d6_append_45 : decode b6_append 45 = .ok (.iload 4, 2) := by decide +kernel
theorem d6_append_47 : decode b6_append 47 = .ok (.invokevirtual 152, 3) := by decide +kernel
theorem d6_append_50 : decode b6_append 50 = .ok (.aload_n 0, 1) := by decide +kernel
theorem d6_append_51 : decode b6_append 51 = .ok (.iload 5, 2) := by decide +kernel
theorem d6_append_53 : decode b6_append 53 = .ok (.invokevirtual 152, 3) := by decide +kernel
theorem d6_append_56 : decode b6_append 56 = .ok (.aload_n 0, 1) := by decide +kernel
theorem d6_append_57 : decode b6_append 57 = .ok (.getfield 27, 3) := by decide +kernel
theorem d6_append_60 : decode b6_append 60 = .ok (.ireturn, 1) := by decide +kernel
abbrev b6_truncate : ByteArray := prog_8_method_37_code
def y6_truncate : MethodName := ⟨"ChannelScheduleModel", "truncate", "(I)I"⟩
theorem w6_truncate : YV y6_truncate b6_truncate 2 (some .int) 1 := ⟨LW_i 1372 (by decide +kernel) (by decide +kernel), LW_i 1373 (by decide +kernel) (by decide +kernel), LW_i 120 (by decide +kernel) (by decide +kernel), LW_i 1374 (by decide +kernel) (by decide +kernel), by decide +kernel, by decide +kernel⟩
theorem d6_truncate_0 : decode b6_truncate 0 = .ok (.aload_n 0, 1) := by decide +kernel
theorem d6_truncate_1 : decode b6_truncate 1 = .ok (.iload_n 1, 1) := by decide +kernel
theorem d6_truncate_2 : decode b6_truncate 2 = .ok (.iconst 0, 1) := by decide +kernel
theorem d6_truncate_3 : decode b6_truncate 3 = .ok (.aload_n 0, 1) := by decide +kernel
theorem d6_truncate_4 : decode b6_truncate 4 = .ok (.getfield 27, 3) := by decide +kernel
theorem d6_truncate_7 : decode b6_truncate 7 = .ok (.invokestatic 75, 3) := by decide +kernel
theorem d6_truncate_10 : decode b6_truncate 10 = .ok (.ifCond .ne 7, 3) := by decide +kernel
theorem d6_truncate_13 : decode b6_truncate 13 = .ok (.iconst 1, 1) := by decide +kernel
theorem d6_truncate_14 : decode b6_truncate 14 = .ok (.goto 4, 3) := by decide +kernel
theorem d6_truncate_17 : decode b6_truncate 17 = .ok (.iconst 0, 1) := by decide +kernel
theorem d6_truncate_18 : decode b6_truncate 18 = .ok (.iconst 0, 1) := by decide +kernel
theorem d6_truncate_19 : decode b6_truncate 19 = .ok (.iconst 0, 1) := by decide +kernel
theorem d6_truncate_20 : decode b6_truncate 20 = .ok (.invokevirtual 148, 3) := by decide +kernel
theorem d6_truncate_23 : decode b6_truncate 23 = .ok (.ifCond .eq 5, 3) := by decide +kernel
theorem d6_truncate_26 : decode b6_truncate 26 = .ok (.iconst 0, 1) := by decide +kernel
theorem d6_truncate_27 : decode b6_truncate 27 = .ok (.ireturn, 1) := by decide +kernel
theorem d6_truncate_28 : decode b6_truncate 28 = .ok (.aload_n 0, 1) := by decide +kernel
theorem d6_truncate_29 : decode b6_truncate 29 = .ok (.iload_n 1, 1) := by decide +kernel
theorem d6_truncate_30 : decode b6_truncate 30 = .ok (.putfield 27, 3) := by decide +kernel
theorem d6_truncate_33 : decode b6_truncate 33 = .ok (.iload_n 1, 1) := by decide +kernel
theorem d6_truncate_34 : decode b6_truncate 34 = .ok (.ireturn, 1) := by decide +kernel
abbrev b6_isSmall : ByteArray := prog_8_method_38_code
def y6_isSmall : MethodName := ⟨"ChannelScheduleModel", "isSmall", "(I)Z"⟩
theorem w6_isSmall : YS y6_isSmall b6_isSmall 1 (some .boolean) 1 := ⟨LW_i 1267 (by decide +kernel) (by decide +kernel), LW_i 120 (by decide +kernel) (by decide +kernel), LW_i 1268 (by decide +kernel) (by decide +kernel), by decide +kernel, by decide +kernel⟩
theorem d6_isSmall_0 : decode b6_isSmall 0 = .ok (.iload_n 0, 1) := by decide +kernel
theorem d6_isSmall_1 : decode b6_isSmall 1 = .ok (.bipush 97, 2) := by decide +kernel
theorem d6_isSmall_3 : decode b6_isSmall 3 = .ok (.if_icmp .lt 13, 3) := by decide +kernel
theorem d6_isSmall_6 : decode b6_isSmall 6 = .ok (.iload_n 0, 1) := by decide +kernel
theorem d6_isSmall_7 : decode b6_isSmall 7 = .ok (.bipush 122, 2) := by decide +kernel
theorem d6_isSmall_9 : decode b6_isSmall 9 = .ok (.if_icmp .gt 7, 3) := by decide +kernel
theorem d6_isSmall_12 : decode b6_isSmall 12 = .ok (.iconst 1, 1) := by decide +kernel
theorem d6_isSmall_13 : decode b6_isSmall 13 = .ok (.goto 4, 3) := by decide +kernel
theorem d6_isSmall_16 : decode b6_isSmall 16 = .ok (.iconst 0, 1) := by decide +kernel
theorem d6_isSmall_17 : decode b6_isSmall 17 = .ok (.ireturn, 1) := by decide +kernel
abbrev b6_isDigit : ByteArray := prog_8_method_39_code
def y6_isDigit : MethodName := ⟨"ChannelScheduleModel", "isDigit", "(I)Z"⟩
theorem w6_isDigit : YS y6_isDigit b6_isDigit 1 (some .boolean) 1 := ⟨LW_i 1270 (by decide +kernel) (by decide +kernel), LW_i 120 (by decide +kernel) (by decide +kernel), LW_i 1271 (by decide +kernel) (by decide +kernel), by decide +kernel, by decide +kernel⟩
theorem d6_isDigit_0 : decode b6_isDigit 0 = .ok (.iload_n 0, 1) := by decide +kernel
theorem d6_isDigit_1 : decode b6_isDigit 1 = .ok (.bipush 48, 2) := by decide +kernel
theorem d6_isDigit_3 : decode b6_isDigit 3 = .ok (.if_icmp .lt 13, 3) := by decide +kernel
theorem d6_isDigit_6 : decode b6_isDigit 6 = .ok (.iload_n 0, 1) := by decide +kernel
theorem d6_isDigit_7 : decode b6_isDigit 7 = .ok (.bipush 57, 2) := by decide +kernel
theorem d6_isDigit_9 : decode b6_isDigit 9 = .ok (.if_icmp .gt 7, 3) := by decide +kernel
theorem d6_isDigit_12 : decode b6_isDigit 12 = .ok (.iconst 1, 1) := by decide +kernel
theorem d6_isDigit_13 : decode b6_isDigit 13 = .ok (.goto 4, 3) := by decide +kernel
theorem d6_isDigit_16 : decode b6_isDigit 16 = .ok (.iconst 0, 1) := by decide +kernel
theorem d6_isDigit_17 : decode b6_isDigit 17 = .ok (.ireturn, 1) := by decide +kernel
abbrev b6_token : ByteArray := prog_8_method_40_code
def y6_token : MethodName := ⟨"ChannelScheduleModel", "token", "()V"⟩
theorem w6_token : YV y6_token b6_token 1 none 0 := ⟨LW_i 1264 (by decide +kernel) (by decide +kernel), LW_i 49 (by decide +kernel) (by decide +kernel), LW_i 120 (by decide +kernel) (by decide +kernel), LW_i 1265 (by decide +kernel) (by decide +kernel), by decide +kernel, by decide +kernel⟩
theorem d6_token_0 : decode b6_token 0 = .ok (.aload_n 0, 1) := by decide +kernel
theorem d6_token_1 : decode b6_token 1 = .ok (.getfield 42, 3) := by decide +kernel
theorem d6_token_4 : decode b6_token 4 = .ok (.aload_n 0, 1) := by decide +kernel
theorem d6_token_5 : decode b6_token 5 = .ok (.getfield 27, 3) := by decide +kernel
theorem d6_token_8 : decode b6_token 8 = .ok (.if_icmp .ge 44, 3) := by decide +kernel
theorem d6_token_11 : decode b6_token 11 = .ok (.aload_n 0, 1) := by decide +kernel
theorem d6_token_12 : decode b6_token 12 = .ok (.getfield 24, 3) := by decide +kernel
theorem d6_token_15 : decode b6_token 15 = .ok (.aload_n 0, 1) := by decide +kernel
theorem d6_token_16 : decode b6_token 16 = .ok (.getfield 42, 3) := by decide +kernel
theorem d6_token_19 : decode b6_token 19 = .ok (.iaload, 1) := by decide +kernel
theorem d6_token_20 : decode b6_token 20 = .ok (.bipush 32, 2) := by decide +kernel
theorem d6_token_22 : decode b6_token 22 = .ok (.if_icmp .eq 17, 3) := by decide +kernel
theorem d6_token_25 : decode b6_token 25 = .ok (.aload_n 0, 1) := by decide +kernel
theorem d6_token_26 : decode b6_token 26 = .ok (.getfield 24, 3) := by decide +kernel
theorem d6_token_29 : decode b6_token 29 = .ok (.aload_n 0, 1) := by decide +kernel
theorem d6_token_30 : decode b6_token 30 = .ok (.getfield 42, 3) := by decide +kernel
theorem d6_token_33 : decode b6_token 33 = .ok (.iaload, 1) := by decide +kernel
theorem d6_token_34 : decode b6_token 34 = .ok (.bipush 10, 2) := by decide +kernel
theorem d6_token_36 : decode b6_token 36 = .ok (.if_icmp .ne 16, 3) := by decide +kernel
theorem d6_token_39 : decode b6_token 39 = .ok (.aload_n 0, 1) := by decide +kernel
theorem d6_token_40 : decode b6_token 40 = .ok (.dup, 1) := by decide +kernel
theorem d6_token_41 : decode b6_token 41 = .ok (.getfield 42, 3) := by decide +kernel
theorem d6_token_44 : decode b6_token 44 = .ok (.iconst 1, 1) := by decide +kernel
theorem d6_token_45 : decode b6_token 45 = .ok (.iadd, 1) := by decide +kernel
theorem d6_token_46 : decode b6_token 46 = .ok (.putfield 42, 3) := by decide +kernel
theorem d6_token_49 : decode b6_token 49 = .ok (.goto (-49), 3) := by decide +kernel
theorem d6_token_52 : decode b6_token 52 = .ok (.aload_n 0, 1) := by decide +kernel
theorem d6_token_53 : decode b6_token 53 = .ok (.aload_n 0, 1) := by decide +kernel
theorem d6_token_54 : decode b6_token 54 = .ok (.getfield 42, 3) := by decide +kernel
theorem d6_token_57 : decode b6_token 57 = .ok (.putfield 48, 3) := by decide +kernel
theorem d6_token_60 : decode b6_token 60 = .ok (.aload_n 0, 1) := by decide +kernel
theorem d6_token_61 : decode b6_token 61 = .ok (.getfield 42, 3) := by decide +kernel
theorem d6_token_64 : decode b6_token 64 = .ok (.aload_n 0, 1) := by decide +kernel
theorem d6_token_65 : decode b6_token 65 = .ok (.getfield 27, 3) := by decide +kernel
theorem d6_token_68 : decode b6_token 68 = .ok (.if_icmp .ne 9, 3) := by decide +kernel
theorem d6_token_71 : decode b6_token 71 = .ok (.aload_n 0, 1) := by decide +kernel
theorem d6_token_72 : decode b6_token 72 = .ok (.iconst 0, 1) := by decide +kernel
theorem d6_token_73 : decode b6_token 73 = .ok (.putfield 45, 3) := by decide +kernel
theorem d6_token_76 : decode b6_token 76 = .ok (.return_, 1) := by decide +kernel
theorem d6_token_77 : decode b6_token 77 = .ok (.aload_n 0, 1) := by decide +kernel
theorem d6_token_78 : decode b6_token 78 = .ok (.getfield 24, 3) := by decide +kernel
theorem d6_token_81 : decode b6_token 81 = .ok (.aload_n 0, 1) := by decide +kernel
theorem d6_token_82 : decode b6_token 82 = .ok (.getfield 42, 3) := by decide +kernel
theorem d6_token_85 : decode b6_token 85 = .ok (.iaload, 1) := by decide +kernel
theorem d6_token_86 : decode b6_token 86 = .ok (.invokestatic 155, 3) := by decide +kernel
theorem d6_token_89 : decode b6_token 89 = .ok (.ifCond .eq 66, 3) := by decide +kernel
theorem d6_token_92 : decode b6_token 92 = .ok (.aload_n 0, 1) := by decide +kernel
theorem d6_token_93 : decode b6_token 93 = .ok (.getfield 42, 3) := by decide +kernel
theorem d6_token_96 : decode b6_token 96 = .ok (.aload_n 0, 1) := by decide +kernel
theorem d6_token_97 : decode b6_token 97 = .ok (.getfield 27, 3) := by decide +kernel
theorem d6_token_100 : decode b6_token 100 = .ok (.if_icmp .ge 31, 3) := by decide +kernel
theorem d6_token_103 : decode b6_token 103 = .ok (.aload_n 0, 1) := by decide +kernel
theorem d6_token_104 : decode b6_token 104 = .ok (.getfield 24, 3) := by decide +kernel
theorem d6_token_107 : decode b6_token 107 = .ok (.aload_n 0, 1) := by decide +kernel
theorem d6_token_108 : decode b6_token 108 = .ok (.getfield 42, 3) := by decide +kernel
theorem d6_token_111 : decode b6_token 111 = .ok (.iaload, 1) := by decide +kernel
theorem d6_token_112 : decode b6_token 112 = .ok (.invokestatic 155, 3) := by decide +kernel
theorem d6_token_115 : decode b6_token 115 = .ok (.ifCond .eq 16, 3) := by decide +kernel
theorem d6_token_118 : decode b6_token 118 = .ok (.aload_n 0, 1) := by decide +kernel
theorem d6_token_119 : decode b6_token 119 = .ok (.dup, 1) := by decide +kernel
theorem d6_token_120 : decode b6_token 120 = .ok (.getfield 42, 3) := by decide +kernel
theorem d6_token_123 : decode b6_token 123 = .ok (.iconst 1, 1) := by decide +kernel
theorem d6_token_124 : decode b6_token 124 = .ok (.iadd, 1) := by decide +kernel
theorem d6_token_125 : decode b6_token 125 = .ok (.putfield 42, 3) := by decide +kernel
theorem d6_token_128 : decode b6_token 128 = .ok (.goto (-36), 3) := by decide +kernel
theorem d6_token_131 : decode b6_token 131 = .ok (.aload_n 0, 1) := by decide +kernel
theorem d6_token_132 : decode b6_token 132 = .ok (.aload_n 0, 1) := by decide +kernel
theorem d6_token_133 : decode b6_token 133 = .ok (.getfield 42, 3) := by decide +kernel
theorem d6_token_136 : decode b6_token 136 = .ok (.aload_n 0, 1) := by decide +kernel
theorem d6_token_137 : decode b6_token 137 = .ok (.getfield 48, 3) := by decide +kernel
theorem d6_token_140 : decode b6_token 140 = .ok (.isub, 1) := by decide +kernel
theorem d6_token_141 : decode b6_token 141 = .ok (.bipush 8, 2) := by decide +kernel
theorem d6_token_143 : decode b6_token 143 = .ok (.if_icmp .le 7, 3) := by decide +kernel
theorem d6_token_146 : decode b6_token 146 = .ok (.iconst 4, 1) := by decide +kernel
theorem d6_token_147 : decode b6_token 147 = .ok (.goto 4, 3) := by decide +kernel
theorem d6_token_150 : decode b6_token 150 = .ok (.iconst 1, 1) := by decide +kernel
theorem d6_token_151 : decode b6_token 151 = .ok (.putfield 45, 3) := by decide +kernel
theorem d6_token_154 : decode b6_token 154 = .ok (.return_, 1) := by decide +kernel
theorem d6_token_155 : decode b6_token 155 = .ok (.aload_n 0, 1) := by decide +kernel
theorem d6_token_156 : decode b6_token 156 = .ok (.getfield 24, 3) := by decide +kernel
theorem d6_token_159 : decode b6_token 159 = .ok (.aload_n 0, 1) := by decide +kernel
theorem d6_token_160 : decode b6_token 160 = .ok (.getfield 42, 3) := by decide +kernel
theorem d6_token_163 : decode b6_token 163 = .ok (.iaload, 1) := by decide +kernel
theorem d6_token_164 : decode b6_token 164 = .ok (.invokestatic 158, 3) := by decide +kernel
theorem d6_token_167 : decode b6_token 167 = .ok (.ifCond .eq 107, 3) := by decide +kernel
theorem d6_token_170 : decode b6_token 170 = .ok (.aload_n 0, 1) := by decide +kernel
theorem d6_token_171 : decode b6_token 171 = .ok (.iconst 0, 1) := by decide +kernel
theorem d6_token_172 : decode b6_token 172 = .ok (.putfield 51, 3) := by decide +kernel
theorem d6_token_175 : decode b6_token 175 = .ok (.aload_n 0, 1) := by decide +kernel
theorem d6_token_176 : decode b6_token 176 = .ok (.getfield 42, 3) := by decide +kernel
theorem d6_token_179 : decode b6_token 179 = .ok (.aload_n 0, 1) := by decide +kernel
theorem d6_token_180 : decode b6_token 180 = .ok (.getfield 27, 3) := by decide +kernel
theorem d6_token_183 : decode b6_token 183 = .ok (.if_icmp .ge 68, 3) := by decide +kernel
theorem d6_token_186 : decode b6_token 186 = .ok (.aload_n 0, 1) := by decide +kernel
theorem d6_token_187 : decode b6_token 187 = .ok (.getfield 24, 3) := by decide +kernel
theorem d6_token_190 : decode b6_token 190 = .ok (.aload_n 0, 1) := by decide +kernel
theorem d6_token_191 : decode b6_token 191 = .ok (.getfield 42, 3) := by decide +kernel
theorem d6_token_194 : decode b6_token 194 = .ok (.iaload, 1) := by decide +kernel
theorem d6_token_195 : decode b6_token 195 = .ok (.invokestatic 158, 3) := by decide +kernel
theorem d6_token_198 : decode b6_token 198 = .ok (.ifCond .eq 53, 3) := by decide +kernel
theorem d6_token_201 : decode b6_token 201 = .ok (.aload_n 0, 1) := by decide +kernel
theorem d6_token_202 : decode b6_token 202 = .ok (.getfield 42, 3) := by decide +kernel
theorem d6_token_205 : decode b6_token 205 = .ok (.aload_n 0, 1) := by decide +kernel
theorem d6_token_206 : decode b6_token 206 = .ok (.getfield 48, 3) := by decide +kernel
theorem d6_token_209 : decode b6_token 209 = .ok (.isub, 1) := by decide +kernel
theorem d6_token_210 : decode b6_token 210 = .ok (.iconst 4, 1) := by decide +kernel
theorem d6_token_211 : decode b6_token 211 = .ok (.if_icmp .ge 27, 3) := by decide +kernel
theorem d6_token_214 : decode b6_token 214 = .ok (.aload_n 0, 1) := by decide +kernel
theorem d6_token_215 : decode b6_token 215 = .ok (.aload_n 0, 1) := by decide +kernel
theorem d6_token_216 : decode b6_token 216 = .ok (.getfield 51, 3) := by decide +kernel
theorem d6_token_219 : decode b6_token 219 = .ok (.bipush 10, 2) := by decide +kernel
theorem d6_token_221 : decode b6_token 221 = .ok (.imul, 1) := by decide +kernel
theorem d6_token_222 : decode b6_token 222 = .ok (.aload_n 0, 1) := by decide +kernel
theorem d6_token_223 : decode b6_token 223 = .ok (.getfield 24, 3) := by decide +kernel
theorem d6_token_226 : decode b6_token 226 = .ok (.aload_n 0, 1) := by decide +kernel
theorem d6_token_227 : decode b6_token 227 = .ok (.getfield 42, 3) := by decide +kernel
theorem d6_token_230 : decode b6_token 230 = .ok (.iaload, 1) := by decide +kernel
theorem d6_token_231 : decode b6_token 231 = .ok (.iadd, 1) := by decide +kernel
theorem d6_token_232 : decode b6_token 232 = .ok (.bipush 48, 2) := by decide +kernel
theorem d6_token_234 : decode b6_token 234 = .ok (.isub, 1) := by decide +kernel
theorem d6_token_235 : decode b6_token 235 = .ok (.putfield 51, 3) := by decide +kernel
theorem d6_token_238 : decode b6_token 238 = .ok (.aload_n 0, 1) := by decide +kernel
theorem d6_token_239 : decode b6_token 239 = .ok (.dup, 1) := by decide +kernel
theorem d6_token_240 : decode b6_token 240 = .ok (.getfield 42, 3) := by decide +kernel
theorem d6_token_243 : decode b6_token 243 = .ok (.iconst 1, 1) := by decide +kernel
theorem d6_token_244 : decode b6_token 244 = .ok (.iadd, 1) := by decide +kernel
theorem d6_token_245 : decode b6_token 245 = .ok (.putfield 42, 3) := by decide +kernel
theorem d6_token_248 : decode b6_token 248 = .ok (.goto (-73), 3) := by decide +kernel
theorem d6_token_251 : decode b6_token 251 = .ok (.aload_n 0, 1) := by decide +kernel
theorem d6_token_252 : decode b6_token 252 = .ok (.aload_n 0, 1) := by decide +kernel
theorem d6_token_253 : decode b6_token 253 = .ok (.getfield 42, 3) := by decide +kernel
theorem d6_token_256 : decode b6_token 256 = .ok (.aload_n 0, 1) := by decide +kernel
theorem d6_token_257 : decode b6_token 257 = .ok (.getfield 48, 3) := by decide +kernel
theorem d6_token_260 : decode b6_token 260 = .ok (.isub, 1) := by decide +kernel
theorem d6_token_261 : decode b6_token 261 = .ok (.iconst 4, 1) := by decide +kernel
theorem d6_token_262 : decode b6_token 262 = .ok (.if_icmp .le 7, 3) := by decide +kernel
theorem d6_token_265 : decode b6_token 265 = .ok (.iconst 4, 1) := by decide +kernel
theorem d6_token_266 : decode b6_token 266 = .ok (.goto 4, 3) := by decide +kernel
theorem d6_token_269 : decode b6_token 269 = .ok (.iconst 2, 1) := by decide +kernel
theorem d6_token_270 : decode b6_token 270 = .ok (.putfield 45, 3) := by decide +kernel
theorem d6_token_273 : decode b6_token 273 = .ok (.return_, 1) := by decide +kernel
theorem d6_token_274 : decode b6_token 274 = .ok (.aload_n 0, 1) := by decide +kernel
theorem d6_token_275 : decode b6_token 275 = .ok (.aload_n 0, 1) := by decide +kernel
theorem d6_token_276 : decode b6_token 276 = .ok (.getfield 24, 3) := by decide +kernel
theorem d6_token_279 : decode b6_token 279 = .ok (.aload_n 0, 1) := by decide +kernel
theorem d6_token_280 : decode b6_token 280 = .ok (.getfield 42, 3) := by decide +kernel
theorem d6_token_283 : decode b6_token 283 = .ok (.iaload, 1) := by decide +kernel
theorem d6_token_284 : decode b6_token 284 = .ok (.bipush 59, 2) := by decide +kernel
theorem d6_token_286 : decode b6_token 286 = .ok (.if_icmp .ne 7, 3) := by decide +kernel
theorem d6_token_289 : decode b6_token 289 = .ok (.iconst 3, 1) := by decide +kernel
theorem d6_token_290 : decode b6_token 290 = .ok (.goto 4, 3) := by decide +kernel
theorem d6_token_293 : decode b6_token 293 = .ok (.iconst 4, 1) := by decide +kernel
theorem d6_token_294 : decode b6_token 294 = .ok (.putfield 45, 3) := by decide +kernel
theorem d6_token_297 : decode b6_token 297 = .ok (.aload_n 0, 1) := by decide +kernel
theorem d6_token_298 : decode b6_token 298 = .ok (.dup, 1) := by decide +kernel
theorem d6_token_299 : decode b6_token 299 = .ok (.getfield 42, 3) := by decide +kernel
theorem d6_token_302 : decode b6_token 302 = .ok (.iconst 1, 1) := by decide +kernel
theorem d6_token_303 : decode b6_token 303 = .ok (.iadd, 1) := by decide +kernel
theorem d6_token_304 : decode b6_token 304 = .ok (.putfield 42, 3) := by decide +kernel
theorem d6_token_307 : decode b6_token 307 = .ok (.return_, 1) := by decide +kernel
abbrev b6_begin : ByteArray := prog_8_method_41_code
def y6_begin : MethodName := ⟨"ChannelScheduleModel", "begin", "()V"⟩
theorem w6_begin : YV y6_begin b6_begin 1 none 0 := ⟨LW_i 1260 (by decide +kernel) (by decide +kernel), LW_i 48 (by decide +kernel) (by decide +kernel), LW_i 120 (by decide +kernel) (by decide +kernel), LW_i 1261 (by decide +kernel) (by decide +kernel), by decide +kernel, by decide +kernel⟩
theorem d6_begin_0 : decode b6_begin 0 = .ok (.aload_n 0, 1) := by decide +kernel
theorem d6_begin_1 : decode b6_begin 1 = .ok (.iconst 0, 1) := by decide +kernel
theorem d6_begin_2 : decode b6_begin 2 = .ok (.putfield 30, 3) := by decide +kernel
theorem d6_begin_5 : decode b6_begin 5 = .ok (.aload_n 0, 1) := by decide +kernel
theorem d6_begin_6 : decode b6_begin 6 = .ok (.iconst (-1), 1) := by decide +kernel
theorem d6_begin_7 : decode b6_begin 7 = .ok (.putfield 33, 3) := by decide +kernel
theorem d6_begin_10 : decode b6_begin 10 = .ok (.aload_n 0, 1) := by decide +kernel
theorem d6_begin_11 : decode b6_begin 11 = .ok (.iconst 0, 1) := by decide +kernel
theorem d6_begin_12 : decode b6_begin 12 = .ok (.putfield 42, 3) := by decide +kernel
theorem d6_begin_15 : decode b6_begin 15 = .ok (.aload_n 0, 1) := by decide +kernel
theorem d6_begin_16 : decode b6_begin 16 = .ok (.invokevirtual 161, 3) := by decide +kernel
theorem d6_begin_19 : decode b6_begin 19 = .ok (.return_, 1) := by decide +kernel
abbrev b6_wrong : ByteArray := prog_8_method_42_code
def y6_wrong : MethodName := ⟨"ChannelScheduleModel", "wrong", "(I)Z"⟩
theorem w6_wrong : YV y6_wrong b6_wrong 2 (some .boolean) 1 := ⟨LW_i 1283 (by decide +kernel) (by decide +kernel), LW_i 52 (by decide +kernel) (by decide +kernel), LW_i 120 (by decide +kernel) (by decide +kernel), LW_i 1284 (by decide +kernel) (by decide +kernel), by decide +kernel, by decide +kernel⟩
theorem d6_wrong_0 : decode b6_wrong 0 = .ok (.aload_n 0, 1) := by decide +kernel
theorem d6_wrong_1 : decode b6_wrong 1 = .ok (.iload_n 1, 1) := by decide +kernel
theorem d6_wrong_2 : decode b6_wrong 2 = .ok (.putfield 30, 3) := by decide +kernel
theorem d6_wrong_5 : decode b6_wrong 5 = .ok (.aload_n 0, 1) := by decide +kernel
theorem d6_wrong_6 : decode b6_wrong 6 = .ok (.aload_n 0, 1) := by decide +kernel
theorem d6_wrong_7 : decode b6_wrong 7 = .ok (.getfield 48, 3) := by decide +kernel
theorem d6_wrong_10 : decode b6_wrong 10 = .ok (.putfield 33, 3) := by decide +kernel
theorem d6_wrong_13 : decode b6_wrong 13 = .ok (.iconst 0, 1) := by decide +kernel
theorem d6_wrong_14 : decode b6_wrong 14 = .ok (.ireturn, 1) := by decide +kernel
abbrev b6_isWord : ByteArray := prog_8_method_43_code
def y6_isWord : MethodName := ⟨"ChannelScheduleModel", "isWord", "(Ljava/lang/String;)Z"⟩
theorem w6_isWord : YV y6_isWord b6_isWord 3 (some .boolean) 1 := ⟨LW_i 1279 (by decide +kernel) (by decide +kernel), LW_i 51 (by decide +kernel) (by decide +kernel), LW_i 120 (by decide +kernel) (by decide +kernel), LW_i 1280 (by decide +kernel) (by decide +kernel), by decide +kernel, by decide +kernel⟩
theorem d6_isWord_0 : decode b6_isWord 0 = .ok (.aload_n 0, 1) := by decide +kernel
theorem d6_isWord_1 : decode b6_isWord 1 = .ok (.getfield 45, 3) := by decide +kernel
theorem d6_isWord_4 : decode b6_isWord 4 = .ok (.iconst 1, 1) := by decide +kernel
theorem d6_isWord_5 : decode b6_isWord 5 = .ok (.if_icmp .ne 19, 3) := by decide +kernel
theorem d6_isWord_8 : decode b6_isWord 8 = .ok (.aload_n 0, 1) := by decide +kernel
theorem d6_isWord_9 : decode b6_isWord 9 = .ok (.getfield 42, 3) := by decide +kernel
theorem d6_isWord_12 : decode b6_isWord 12 = .ok (.aload_n 0, 1) := by decide +kernel
theorem d6_isWord_13 : decode b6_isWord 13 = .ok (.getfield 48, 3) := by decide +kernel
theorem d6_isWord_16 : decode b6_isWord 16 = .ok (.isub, 1) := by decide +kernel
theorem d6_isWord_17 : decode b6_isWord 17 = .ok (.aload_n 1, 1) := by decide +kernel
theorem d6_isWord_18 : decode b6_isWord 18 = .ok (.invokevirtual 59, 3) := by decide +kernel
theorem d6_isWord_21 : decode b6_isWord 21 = .ok (.if_icmp .eq 5, 3) := by decide +kernel
theorem d6_isWord_24 : decode b6_isWord 24 = .ok (.iconst 0, 1) := by decide +kernel
theorem d6_isWord_25 : decode b6_isWord 25 = .ok (.ireturn, 1) := by decide +kernel
theorem d6_isWord_26 : decode b6_isWord 26 = .ok (.iconst 0, 1) := by decide +kernel
theorem d6_isWord_27 : decode b6_isWord 27 = .ok (.istore_n 2, 1) := by decide +kernel
theorem d6_isWord_28 : decode b6_isWord 28 = .ok (.iload_n 2, 1) := by decide +kernel
theorem d6_isWord_29 : decode b6_isWord 29 = .ok (.aload_n 1, 1) := by decide +kernel
theorem d6_isWord_30 : decode b6_isWord 30 = .ok (.invokevirtual 59, 3) := by decide +kernel
theorem d6_isWord_33 : decode b6_isWord 33 = .ok (.if_icmp .ge 30, 3) := by decide +kernel
theorem d6_isWord_36 : decode b6_isWord 36 = .ok (.aload_n 0, 1) := by decide +kernel
theorem d6_isWord_37 : decode b6_isWord 37 = .ok (.getfield 24, 3) := by decide +kernel
theorem d6_isWord_40 : decode b6_isWord 40 = .ok (.aload_n 0, 1) := by decide +kernel
theorem d6_isWord_41 : decode b6_isWord 41 = .ok (.getfield 48, 3) := by decide +kernel
theorem d6_isWord_44 : decode b6_isWord 44 = .ok (.iload_n 2, 1) := by decide +kernel
theorem d6_isWord_45 : decode b6_isWord 45 = .ok (.iadd, 1) := by decide +kernel
theorem d6_isWord_46 : decode b6_isWord 46 = .ok (.iaload, 1) := by decide +kernel
theorem d6_isWord_47 : decode b6_isWord 47 = .ok (.aload_n 1, 1) := by decide +kernel
theorem d6_isWord_48 : decode b6_isWord 48 = .ok (.iload_n 2, 1) := by decide +kernel
theorem d6_isWord_49 : decode b6_isWord 49 = .ok (.invokevirtual 64, 3) := by decide +kernel
theorem d6_isWord_52 : decode b6_isWord 52 = .ok (.if_icmp .eq 5, 3) := by decide +kernel
theorem d6_isWord_55 : decode b6_isWord 55 = .ok (.iconst 0, 1) := by decide +kernel
theorem d6_isWord_56 : decode b6_isWord 56 = .ok (.ireturn, 1) := by decide +kernel
theorem d6_isWord_57 : decode b6_isWord 57 = .ok (.iinc 2 1, 3) := by decide +kernel
theorem d6_isWord_60 : decode b6_isWord 60 = .ok (.goto (-32), 3) := by decide +kernel
theorem d6_isWord_63 : decode b6_isWord 63 = .ok (.iconst 1, 1) := by decide +kernel
theorem d6_isWord_64 : decode b6_isWord 64 = .ok (.ireturn, 1) := by decide +kernel
abbrev b6_semicolon : ByteArray := prog_8_method_44_code
def y6_semicolon : MethodName := ⟨"ChannelScheduleModel", "semicolon", "()Z"⟩
theorem w6_semicolon : YV y6_semicolon b6_semicolon 1 (some .boolean) 0 := ⟨LW_i 1294 (by decide +kernel) (by decide +kernel), LW_i 54 (by decide +kernel) (by decide +kernel), LW_i 120 (by decide +kernel) (by decide +kernel), LW_i 1295 (by decide +kernel) (by decide +kernel), by decide +kernel, by decide +kernel⟩
theorem d6_semicolon_0 : decode b6_semicolon 0 = .ok (.aload_n 0, 1) := by decide +kernel
theorem d6_semicolon_1 : decode b6_semicolon 1 = .ok (.getfield 45, 3) := by decide +kernel
theorem d6_semicolon_4 : decode b6_semicolon 4 = .ok (.iconst 3, 1) := by decide +kernel
theorem d6_semicolon_5 : decode b6_semicolon 5 = .ok (.if_icmp .eq 9, 3) := by decide +kernel
theorem d6_semicolon_8 : decode b6_semicolon 8 = .ok (.aload_n 0, 1) := by decide +kernel
theorem d6_semicolon_9 : decode b6_semicolon 9 = .ok (.iconst 1, 1) := by decide +kernel
theorem d6_semicolon_10 : decode b6_semicolon 10 = .ok (.invokevirtual 164, 3) := by decide +kernel
theorem d6_semicolon_13 : decode b6_semicolon 13 = .ok (.ireturn, 1) := by decide +kernel
theorem d6_semicolon_14 : decode b6_semicolon 14 = .ok (.aload_n 0, 1) := by decide +kernel
theorem d6_semicolon_15 : decode b6_semicolon 15 = .ok (.invokevirtual 161, 3) := by decide +kernel
theorem d6_semicolon_18 : decode b6_semicolon 18 = .ok (.iconst 1, 1) := by decide +kernel
theorem d6_semicolon_19 : decode b6_semicolon 19 = .ok (.ireturn, 1) := by decide +kernel
abbrev b6_shipNamed : ByteArray := prog_8_method_45_code
def y6_shipNamed : MethodName := ⟨"ChannelScheduleModel", "shipNamed", "(II)I"⟩
theorem w6_shipNamed : YV y6_shipNamed b6_shipNamed 6 (some .int) 2 := ⟨LW_i 1307 (by decide +kernel) (by decide +kernel), LW_i 57 (by decide +kernel) (by decide +kernel), LW_i 120 (by decide +kernel) (by decide +kernel), LW_i 1308 (by decide +kernel) (by decide +kernel), by decide +kernel, by decide +kernel⟩
theorem d6_shipNamed_0 : decode b6_shipNamed 0 = .ok (.iconst 0, 1) := by decide +kernel
theorem d6_shipNamed_1 : decode b6_shipNamed 1 = .ok (.istore_n 3, 1) := by decide +kernel
theorem d6_shipNamed_2 : decode b6_shipNamed 2 = .ok (.iload_n 3, 1) := by decide +kernel
theorem d6_shipNamed_3 : decode b6_shipNamed 3 = .ok (.aload_n 0, 1) := by decide +kernel
theorem d6_shipNamed_4 : decode b6_shipNamed 4 = .ok (.getfield 13, 3) := by decide +kernel
theorem d6_shipNamed_7 : decode b6_shipNamed 7 = .ok (.iconst 4, 1) := by decide +kernel
theorem d6_shipNamed_8 : decode b6_shipNamed 8 = .ok (.iaload, 1) := by decide +kernel
theorem d6_shipNamed_9 : decode b6_shipNamed 9 = .ok (.if_icmp .ge 81, 3) := by decide +kernel
theorem d6_shipNamed_12 : decode b6_shipNamed 12 = .ok (.aload_n 0, 1) := by decide +kernel
theorem d6_shipNamed_13 : decode b6_shipNamed 13 = .ok (.iload_n 3, 1) := by decide +kernel
theorem d6_shipNamed_14 : decode b6_shipNamed 14 = .ok (.iconst 0, 1) := by decide +kernel
theorem d6_shipNamed_15 : decode b6_shipNamed 15 = .ok (.invokevirtual 83, 3) := by decide +kernel
theorem d6_shipNamed_18 : decode b6_shipNamed 18 = .ok (.iload_n 2, 1) := by decide +kernel
theorem d6_shipNamed_19 : decode b6_shipNamed 19 = .ok (.if_icmp .ne 7, 3) := by decide +kernel
theorem d6_shipNamed_22 : decode b6_shipNamed 22 = .ok (.iconst 1, 1) := by decide +kernel
theorem d6_shipNamed_23 : decode b6_shipNamed 23 = .ok (.goto 4, 3) := by decide +kernel
theorem d6_shipNamed_26 : decode b6_shipNamed 26 = .ok (.iconst 0, 1) := by decide +kernel
theorem d6_shipNamed_27 : decode b6_shipNamed 27 = .ok (.istore 4, 2) := by decide +kernel
theorem d6_shipNamed_29 : decode b6_shipNamed 29 = .ok (.iconst 0, 1) := by decide +kernel
theorem d6_shipNamed_30 : decode b6_shipNamed 30 = .ok (.istore 5, 2) := by decide +kernel
theorem d6_shipNamed_32 : decode b6_shipNamed 32 = .ok (.iload 4, 2) := by decide +kernel
theorem d6_shipNamed_34 : decode b6_shipNamed 34 = .ok (.ifCond .eq 43, 3) := by decide +kernel
theorem d6_shipNamed_37 : decode b6_shipNamed 37 = .ok (.iload 5, 2) := by decide +kernel
theorem d6_shipNamed_39 : decode b6_shipNamed 39 = .ok (.iload_n 2, 1) := by decide +kernel
theorem d6_shipNamed_40 : decode b6_shipNamed 40 = .ok (.if_icmp .ge 37, 3) := by decide +kernel
theorem d6_shipNamed_43 : decode b6_shipNamed 43 = .ok (.aload_n 0, 1) := by decide +kernel
theorem d6_shipNamed_44 : decode b6_shipNamed 44 = .ok (.iload_n 3, 1) := by decide +kernel
theorem d6_shipNamed_45 : decode b6_shipNamed 45 = .ok (.iconst 1, 1) := by decide +kernel
theorem d6_shipNamed_46 : decode b6_shipNamed 46 = .ok (.iload 5, 2) := by decide +kernel
theorem d6_shipNamed_48 : decode b6_shipNamed 48 = .ok (.iadd, 1) := by decide +kernel
theorem d6_shipNamed_49 : decode b6_shipNamed 49 = .ok (.invokevirtual 83, 3) := by decide +kernel
theorem d6_shipNamed_52 : decode b6_shipNamed 52 = .ok (.aload_n 0, 1) := by decide +kernel
theorem d6_shipNamed_53 : decode b6_shipNamed 53 = .ok (.getfield 24, 3) := by decide +kernel
theorem d6_shipNamed_56 : decode b6_shipNamed 56 = .ok (.iload_n 1, 1) := by decide +kernel
theorem d6_shipNamed_57 : decode b6_shipNamed 57 = .ok (.iload 5, 2) := by decide +kernel
theorem d6_shipNamed_59 : decode b6_shipNamed 59 = .ok (.iadd, 1) := by decide +kernel
theorem d6_shipNamed_60 : decode b6_shipNamed 60 = .ok (.iaload, 1) := by decide +kernel
theorem d6_shipNamed_61 : decode b6_shipNamed 61 = .ok (.if_icmp .ne 7, 3) := by decide +kernel
theorem d6_shipNamed_64 : decode b6_shipNamed 64 = .ok (.iconst 1, 1) := by decide +kernel
theorem d6_shipNamed_65 : decode b6_shipNamed 65 = .ok (.goto 4, 3) := by decide +kernel
theorem d6_shipNamed_68 : decode b6_shipNamed 68 = .ok (.iconst 0, 1) := by decide +kernel
theorem d6_shipNamed_69 : decode b6_shipNamed 69 = .ok (.istore 4, 2) := by decide +kernel
theorem d6_shipNamed_71 : decode b6_shipNamed 71 = .ok (.iinc 5 1, 3) := by decide +kernel
theorem d6_shipNamed_74 : decode b6_shipNamed 74 = .ok (.goto (-42), 3) := by decide +kernel
theorem d6_shipNamed_77 : decode b6_shipNamed 77 = .ok (.iload 4, 2) := by decide +kernel
theorem d6_shipNamed_79 : decode b6_shipNamed 79 = .ok (.ifCond .eq 5, 3) := by decide +kernel
theorem d6_shipNamed_82 : decode b6_shipNamed 82 = .ok (.iload_n 3, 1) := by decide +kernel
theorem d6_shipNamed_83 : decode b6_shipNamed 83 = .ok (.ireturn, 1) := by decide +kernel
theorem d6_shipNamed_84 : decode b6_shipNamed 84 = .ok (.iinc 3 1, 3) := by decide +kernel
theorem d6_shipNamed_87 : decode b6_shipNamed 87 = .ok (.goto (-85), 3) := by decide +kernel
theorem d6_shipNamed_90 : decode b6_shipNamed 90 = .ok (.iconst (-1), 1) := by decide +kernel
theorem d6_shipNamed_91 : decode b6_shipNamed 91 = .ok (.ireturn, 1) := by decide +kernel
abbrev b6_isShortWord : ByteArray := prog_8_method_46_code
def y6_isShortWord : MethodName := ⟨"ChannelScheduleModel", "isShortWord", "()Z"⟩
theorem w6_isShortWord : YV y6_isShortWord b6_isShortWord 1 (some .boolean) 0 := ⟨LW_i 1303 (by decide +kernel) (by decide +kernel), LW_i 56 (by decide +kernel) (by decide +kernel), LW_i 120 (by decide +kernel) (by decide +kernel), LW_i 1304 (by decide +kernel) (by decide +kernel), by decide +kernel, by decide +kernel⟩
theorem d6_isShortWord_0 : decode b6_isShortWord 0 = .ok (.aload_n 0, 1) := by decide +kernel
theorem d6_isShortWord_1 : decode b6_isShortWord 1 = .ok (.getfield 45, 3) := by decide +kernel
theorem d6_isShortWord_4 : decode b6_isShortWord 4 = .ok (.iconst 1, 1) := by decide +kernel
theorem d6_isShortWord_5 : decode b6_isShortWord 5 = .ok (.if_icmp .eq 9, 3) := by decide +kernel
theorem d6_isShortWord_8 : decode b6_isShortWord 8 = .ok (.aload_n 0, 1) := by decide +kernel
theorem d6_isShortWord_9 : decode b6_isShortWord 9 = .ok (.iconst 1, 1) := by decide +kernel
theorem d6_isShortWord_10 : decode b6_isShortWord 10 = .ok (.invokevirtual 164, 3) := by decide +kernel
theorem d6_isShortWord_13 : decode b6_isShortWord 13 = .ok (.ireturn, 1) := by decide +kernel
theorem d6_isShortWord_14 : decode b6_isShortWord 14 = .ok (.aload_n 0, 1) := by decide +kernel
theorem d6_isShortWord_15 : decode b6_isShortWord 15 = .ok (.getfield 42, 3) := by decide +kernel
theorem d6_isShortWord_18 : decode b6_isShortWord 18 = .ok (.aload_n 0, 1) := by decide +kernel
theorem d6_isShortWord_19 : decode b6_isShortWord 19 = .ok (.getfield 48, 3) := by decide +kernel
theorem d6_isShortWord_22 : decode b6_isShortWord 22 = .ok (.isub, 1) := by decide +kernel
theorem d6_isShortWord_23 : decode b6_isShortWord 23 = .ok (.bipush 6, 2) := by decide +kernel
theorem d6_isShortWord_25 : decode b6_isShortWord 25 = .ok (.if_icmp .le 11, 3) := by decide +kernel
theorem d6_isShortWord_28 : decode b6_isShortWord 28 = .ok (.aload_n 0, 1) := by decide +kernel
theorem d6_isShortWord_29 : decode b6_isShortWord 29 = .ok (.iconst 3, 1) := by decide +kernel
theorem d6_isShortWord_30 : decode b6_isShortWord 30 = .ok (.invokevirtual 164, 3) := by decide +kernel
theorem d6_isShortWord_33 : decode b6_isShortWord 33 = .ok (.ifCond .eq 7, 3) := by decide +kernel
theorem d6_isShortWord_36 : decode b6_isShortWord 36 = .ok (.iconst 1, 1) := by decide +kernel
theorem d6_isShortWord_37 : decode b6_isShortWord 37 = .ok (.goto 4, 3) := by decide +kernel
theorem d6_isShortWord_40 : decode b6_isShortWord 40 = .ok (.iconst 0, 1) := by decide +kernel
theorem d6_isShortWord_41 : decode b6_isShortWord 41 = .ok (.ireturn, 1) := by decide +kernel
abbrev b6_parseRanged : ByteArray := prog_8_method_47_code
def y6_parseRanged : MethodName := ⟨"ChannelScheduleModel", "parseRanged", "(III)Z"⟩
theorem w6_parseRanged : YV y6_parseRanged b6_parseRanged 4 (some .boolean) 3 := ⟨LW_i 1287 (by decide +kernel) (by decide +kernel), LW_i 53 (by decide +kernel) (by decide +kernel), LW_i 120 (by decide +kernel) (by decide +kernel), LW_i 1288 (by decide +kernel) (by decide +kernel), by decide +kernel, by decide +kernel⟩
theorem d6_parseRanged_0 : decode b6_parseRanged 0 = .ok (.aload_n 0, 1) := by decide +kernel
theorem d6_parseRanged_1 : decode b6_parseRanged 1 = .ok (.getfield 45, 3) := by decide +kernel
theorem d6_parseRanged_4 : decode b6_parseRanged 4 = .ok (.iconst 2, 1) := by decide +kernel
theorem d6_parseRanged_5 : decode b6_parseRanged 5 = .ok (.if_icmp .eq 9, 3) := by decide +kernel
theorem d6_parseRanged_8 : decode b6_parseRanged 8 = .ok (.aload_n 0, 1) := by decide +kernel
theorem d6_parseRanged_9 : decode b6_parseRanged 9 = .ok (.iconst 1, 1) := by decide +kernel
theorem d6_parseRanged_10 : decode b6_parseRanged 10 = .ok (.invokevirtual 164, 3) := by decide +kernel
theorem d6_parseRanged_13 : decode b6_parseRanged 13 = .ok (.ireturn, 1) := by decide +kernel
theorem d6_parseRanged_14 : decode b6_parseRanged 14 = .ok (.aload_n 0, 1) := by decide +kernel
theorem d6_parseRanged_15 : decode b6_parseRanged 15 = .ok (.getfield 51, 3) := by decide +kernel
theorem d6_parseRanged_18 : decode b6_parseRanged 18 = .ok (.iload_n 2, 1) := by decide +kernel
theorem d6_parseRanged_19 : decode b6_parseRanged 19 = .ok (.iload_n 3, 1) := by decide +kernel
theorem d6_parseRanged_20 : decode b6_parseRanged 20 = .ok (.invokestatic 75, 3) := by decide +kernel
theorem d6_parseRanged_23 : decode b6_parseRanged 23 = .ok (.ifCond .ne 9, 3) := by decide +kernel
theorem d6_parseRanged_26 : decode b6_parseRanged 26 = .ok (.aload_n 0, 1) := by decide +kernel
theorem d6_parseRanged_27 : decode b6_parseRanged 27 = .ok (.iconst 2, 1) := by decide +kernel
theorem d6_parseRanged_28 : decode b6_parseRanged 28 = .ok (.invokevirtual 164, 3) := by decide +kernel
theorem d6_parseRanged_31 : decode b6_parseRanged 31 = .ok (.ireturn, 1) := by decide +kernel
theorem d6_parseRanged_32 : decode b6_parseRanged 32 = .ok (.aload_n 0, 1) := by decide +kernel
theorem d6_parseRanged_33 : decode b6_parseRanged 33 = .ok (.getfield 13, 3) := by decide +kernel
theorem d6_parseRanged_36 : decode b6_parseRanged 36 = .ok (.iload_n 1, 1) := by decide +kernel
theorem d6_parseRanged_37 : decode b6_parseRanged 37 = .ok (.aload_n 0, 1) := by decide +kernel
theorem d6_parseRanged_38 : decode b6_parseRanged 38 = .ok (.getfield 51, 3) := by decide +kernel
theorem d6_parseRanged_41 : decode b6_parseRanged 41 = .ok (.iastore, 1) := by decide +kernel
theorem d6_parseRanged_42 : decode b6_parseRanged 42 = .ok (.aload_n 0, 1) := by decide +kernel
theorem d6_parseRanged_43 : decode b6_parseRanged 43 = .ok (.invokevirtual 161, 3) := by decide +kernel
theorem d6_parseRanged_46 : decode b6_parseRanged 46 = .ok (.iconst 1, 1) := by decide +kernel
theorem d6_parseRanged_47 : decode b6_parseRanged 47 = .ok (.ireturn, 1) := by decide +kernel
abbrev b6_parseShip : ByteArray := prog_8_method_48_code
def y6_parseShip : MethodName := ⟨"ChannelScheduleModel", "parseShip", "()Z"⟩
theorem w6_parseShip : YV y6_parseShip b6_parseShip 3 (some .boolean) 0 := ⟨LW_i 1299 (by decide +kernel) (by decide +kernel), LW_i 55 (by decide +kernel) (by decide +kernel), LW_i 120 (by decide +kernel) (by decide +kernel), LW_i 1300 (by decide +kernel) (by decide +kernel), by decide +kernel, by decide +kernel⟩
theorem d6_parseShip_0 : decode b6_parseShip 0 = .ok (.aload_n 0, 1) := by decide +kernel
theorem d6_parseShip_1 : decode b6_parseShip 1 = .ok (.getfield 13, 3) := by decide +kernel
theorem d6_parseShip_4 : decode b6_parseShip 4 = .ok (.iconst 4, 1) := by decide +kernel
theorem d6_parseShip_5 : decode b6_parseShip 5 = .ok (.iaload, 1) := by decide +kernel
theorem d6_parseShip_6 : decode b6_parseShip 6 = .ok (.bipush 10, 2) := by decide +kernel
theorem d6_parseShip_8 : decode b6_parseShip 8 = .ok (.if_icmp .ne 9, 3) := by decide +kernel
theorem d6_parseShip_11 : decode b6_parseShip 11 = .ok (.aload_n 0, 1) := by decide +kernel
theorem d6_parseShip_12 : decode b6_parseShip 12 = .ok (.iconst 4, 1) := by decide +kernel
theorem d6_parseShip_13 : decode b6_parseShip 13 = .ok (.invokevirtual 164, 3) := by decide +kernel
theorem d6_parseShip_16 : decode b6_parseShip 16 = .ok (.ireturn, 1) := by decide +kernel
theorem d6_parseShip_17 : decode b6_parseShip 17 = .ok (.aload_n 0, 1) := by decide +kernel
theorem d6_parseShip_18 : decode b6_parseShip 18 = .ok (.invokevirtual 161, 3) := by decide +kernel
theorem d6_parseShip_21 : decode b6_parseShip 21 = .ok (.aload_n 0, 1) := by decide +kernel
theorem d6_parseShip_22 : decode b6_parseShip 22 = .ok (.invokevirtual 167, 3) := by decide +kernel
theorem d6_parseShip_25 : decode b6_parseShip 25 = .ok (.ifCond .ne 5, 3) := by decide +kernel
theorem d6_parseShip_28 : decode b6_parseShip 28 = .ok (.iconst 0, 1) := by decide +kernel
theorem d6_parseShip_29 : decode b6_parseShip 29 = .ok (.ireturn, 1) := by decide +kernel
theorem d6_parseShip_30 : decode b6_parseShip 30 = .ok (.aload_n 0, 1) := by decide +kernel
theorem d6_parseShip_31 : decode b6_parseShip 31 = .ok (.aload_n 0, 1) := by decide +kernel
theorem d6_parseShip_32 : decode b6_parseShip 32 = .ok (.getfield 48, 3) := by decide +kernel
theorem d6_parseShip_35 : decode b6_parseShip 35 = .ok (.aload_n 0, 1) := by decide +kernel
theorem d6_parseShip_36 : decode b6_parseShip 36 = .ok (.getfield 42, 3) := by decide +kernel
theorem d6_parseShip_39 : decode b6_parseShip 39 = .ok (.aload_n 0, 1) := by decide +kernel
theorem d6_parseShip_40 : decode b6_parseShip 40 = .ok (.getfield 48, 3) := by decide +kernel
theorem d6_parseShip_43 : decode b6_parseShip 43 = .ok (.isub, 1) := by decide +kernel
theorem d6_parseShip_44 : decode b6_parseShip 44 = .ok (.invokevirtual 170, 3) := by decide +kernel
theorem d6_parseShip_47 : decode b6_parseShip 47 = .ok (.iconst (-1), 1) := by decide +kernel
theorem d6_parseShip_48 : decode b6_parseShip 48 = .ok (.if_icmp .eq 9, 3) := by decide +kernel
theorem d6_parseShip_51 : decode b6_parseShip 51 = .ok (.aload_n 0, 1) := by decide +kernel
theorem d6_parseShip_52 : decode b6_parseShip 52 = .ok (.iconst 3, 1) := by decide +kernel
theorem d6_parseShip_53 : decode b6_parseShip 53 = .ok (.invokevirtual 164, 3) := by decide +kernel
theorem d6_parseShip_56 : decode b6_parseShip 56 = .ok (.ireturn, 1) := by decide +kernel
theorem d6_parseShip_57 : decode b6_parseShip 57 = .ok (.bipush 10, 2) := by decide +kernel
theorem d6_parseShip_59 : decode b6_parseShip 59 = .ok (.aload_n 0, 1) := by decide +kernel
theorem d6_parseShip_60 : decode b6_parseShip 60 = .ok (.getfield 13, 3) := by decide +kernel
theorem d6_parseShip_63 : decode b6_parseShip 63 = .ok (.iconst 4, 1) := by decide +kernel
theorem d6_parseShip_64 : decode b6_parseShip 64 = .ok (.iaload, 1) := by decide +kernel
theorem d6_parseShip_65 : decode b6_parseShip 65 = .ok (.bipush 10, 2) := by decide +kernel
theorem d6_parseShip_67 : decode b6_parseShip 67 = .ok (.imul, 1) := by decide +kernel
theorem d6_parseShip_68 : decode b6_parseShip 68 = .ok (.iadd, 1) := by decide +kernel
theorem d6_parseShip_69 : decode b6_parseShip 69 = .ok (.istore_n 1, 1) := by decide +kernel
theorem d6_parseShip_70 : decode b6_parseShip 70 = .ok (.aload_n 0, 1) := by decide +kernel
theorem d6_parseShip_71 : decode b6_parseShip 71 = .ok (.getfield 13, 3) := by decide +kernel
theorem d6_parseShip_74 : decode b6_parseShip 74 = .ok (.iload_n 1, 1) := by decide +kernel
theorem d6_parseShip_75 : decode b6_parseShip 75 = .ok (.aload_n 0, 1) := by decide +kernel
theorem d6_parseShip_76 : decode b6_parseShip 76 = .ok (.getfield 42, 3) := by decide +kernel
theorem d6_parseShip_79 : decode b6_parseShip 79 = .ok (.aload_n 0, 1) := by decide +kernel
theorem d6_parseShip_80 : decode b6_parseShip 80 = .ok (.getfield 48, 3) := by decide +kernel
theorem d6_parseShip_83 : decode b6_parseShip 83 = .ok (.isub, 1) := by decide +kernel
theorem d6_parseShip_84 : decode b6_parseShip 84 = .ok (.iastore, 1) := by decide +kernel
theorem d6_parseShip_85 : decode b6_parseShip 85 = .ok (.aload_n 0, 1) := by decide +kernel
theorem d6_parseShip_86 : decode b6_parseShip 86 = .ok (.getfield 48, 3) := by decide +kernel
theorem d6_parseShip_89 : decode b6_parseShip 89 = .ok (.istore_n 2, 1) := by decide +kernel
theorem d6_parseShip_90 : decode b6_parseShip 90 = .ok (.iload_n 2, 1) := by decide +kernel
theorem d6_parseShip_91 : decode b6_parseShip 91 = .ok (.aload_n 0, 1) := by decide +kernel
theorem d6_parseShip_92 : decode b6_parseShip 92 = .ok (.getfield 42, 3) := by decide +kernel
theorem d6_parseShip_95 : decode b6_parseShip 95 = .ok (.if_icmp .ge 30, 3) := by decide +kernel
theorem d6_parseShip_98 : decode b6_parseShip 98 = .ok (.aload_n 0, 1) := by decide +kernel
theorem d6_parseShip_99 : decode b6_parseShip 99 = .ok (.getfield 13, 3) := by decide +kernel
theorem d6_parseShip_102 : decode b6_parseShip 102 = .ok (.iload_n 1, 1) := by decide +kernel
theorem d6_parseShip_103 : decode b6_parseShip 103 = .ok (.iconst 1, 1) := by decide +kernel
theorem d6_parseShip_104 : decode b6_parseShip 104 = .ok (.iadd, 1) := by decide +kernel
theorem d6_parseShip_105 : decode b6_parseShip 105 = .ok (.iload_n 2, 1) := by decide +kernel
theorem d6_parseShip_106 : decode b6_parseShip 106 = .ok (.iadd, 1) := by decide +kernel
theorem d6_parseShip_107 : decode b6_parseShip 107 = .ok (.aload_n 0, 1) := by decide +kernel
theorem d6_parseShip_108 : decode b6_parseShip 108 = .ok (.getfield 48, 3) := by decide +kernel
theorem d6_parseShip_111 : decode b6_parseShip 111 = .ok (.isub, 1) := by decide +kernel
theorem d6_parseShip_112 : decode b6_parseShip 112 = .ok (.aload_n 0, 1) := by decide +kernel
theorem d6_parseShip_113 : decode b6_parseShip 113 = .ok (.getfield 24, 3) := by decide +kernel
theorem d6_parseShip_116 : decode b6_parseShip 116 = .ok (.iload_n 2, 1) := by decide +kernel
theorem d6_parseShip_117 : decode b6_parseShip 117 = .ok (.iaload, 1) := by decide +kernel
theorem d6_parseShip_118 : decode b6_parseShip 118 = .ok (.iastore, 1) := by decide +kernel
theorem d6_parseShip_119 : decode b6_parseShip 119 = .ok (.iinc 2 1, 3) := by decide +kernel
theorem d6_parseShip_122 : decode b6_parseShip 122 = .ok (.goto (-32), 3) := by decide +kernel
theorem d6_parseShip_125 : decode b6_parseShip 125 = .ok (.aload_n 0, 1) := by decide +kernel
theorem d6_parseShip_126 : decode b6_parseShip 126 = .ok (.invokevirtual 161, 3) := by decide +kernel
theorem d6_parseShip_129 : decode b6_parseShip 129 = .ok (.aload_n 0, 1) := by decide +kernel
theorem d6_parseShip_130 : decode b6_parseShip 130 = .ok (.iload_n 1, 1) := by decide +kernel
theorem d6_parseShip_131 : decode b6_parseShip 131 = .ok (.bipush 7, 2) := by decide +kernel
theorem d6_parseShip_133 : decode b6_parseShip 133 = .ok (.iadd, 1) := by decide +kernel
theorem d6_parseShip_134 : decode b6_parseShip 134 = .ok (.iconst 1, 1) := by decide +kernel
theorem d6_parseShip_135 : decode b6_parseShip 135 = .ok (.bipush 60, 2) := by decide +kernel
theorem d6_parseShip_137 : decode b6_parseShip 137 = .ok (.invokevirtual 173, 3) := by decide +kernel
theorem d6_parseShip_140 : decode b6_parseShip 140 = .ok (.ifCond .eq 38, 3) := by decide +kernel
theorem d6_parseShip_143 : decode b6_parseShip 143 = .ok (.aload_n 0, 1) := by decide +kernel
theorem d6_parseShip_144 : decode b6_parseShip 144 = .ok (.iload_n 1, 1) := by decide +kernel
theorem d6_parseShip_145 : decode b6_parseShip 145 = .ok (.bipush 8, 2) := by decide +kernel
theorem d6_parseShip_147 : decode b6_parseShip 147 = .ok (.iadd, 1) := by decide +kernel
theorem d6_parseShip_148 : decode b6_parseShip 148 = .ok (.iconst 0, 1) := by decide +kernel
theorem d6_parseShip_149 : decode b6_parseShip 149 = .ok (.bipush 9, 2) := by decide +kernel
theorem d6_parseShip_151 : decode b6_parseShip 151 = .ok (.invokevirtual 173, 3) := by decide +kernel
theorem d6_parseShip_154 : decode b6_parseShip 154 = .ok (.ifCond .eq 24, 3) := by decide +kernel
theorem d6_parseShip_157 : decode b6_parseShip 157 = .ok (.aload_n 0, 1) := by decide +kernel
theorem d6_parseShip_158 : decode b6_parseShip 158 = .ok (.iload_n 1, 1) := by decide +kernel
theorem d6_parseShip_159 : decode b6_parseShip 159 = .ok (.bipush 9, 2) := by decide +kernel
theorem d6_parseShip_161 : decode b6_parseShip 161 = .ok (.iadd, 1) := by decide +kernel
theorem d6_parseShip_162 : decode b6_parseShip 162 = .ok (.iconst 1, 1) := by decide +kernel
theorem d6_parseShip_163 : decode b6_parseShip 163 = .ok (.bipush 99, 2) := by decide +kernel
theorem d6_parseShip_165 : decode b6_parseShip 165 = .ok (.invokevirtual 173, 3) := by decide +kernel
theorem d6_parseShip_168 : decode b6_parseShip 168 = .ok (.ifCond .eq 10, 3) := by decide +kernel
theorem d6_parseShip_171 : decode b6_parseShip 171 = .ok (.aload_n 0, 1) := by decide +kernel
theorem d6_parseShip_172 : decode b6_parseShip 172 = .ok (.invokevirtual 176, 3) := by decide +kernel
theorem d6_parseShip_175 : decode b6_parseShip 175 = .ok (.ifCond .ne 5, 3) := by decide +kernel
theorem d6_parseShip_178 : decode b6_parseShip 178 = .ok (.iconst 0, 1) := by decide +kernel
theorem d6_parseShip_179 : decode b6_parseShip 179 = .ok (.ireturn, 1) := by decide +kernel
theorem d6_parseShip_180 : decode b6_parseShip 180 = .ok (.aload_n 0, 1) := by decide +kernel
theorem d6_parseShip_181 : decode b6_parseShip 181 = .ok (.getfield 13, 3) := by decide +kernel
theorem d6_parseShip_184 : decode b6_parseShip 184 = .ok (.iconst 4, 1) := by decide +kernel
theorem d6_parseShip_185 : decode b6_parseShip 185 = .ok (.dup2, 1) := by decide +kernel
theorem d6_parseShip_186 : decode b6_parseShip 186 = .ok (.iaload, 1) := by decide +kernel
theorem d6_parseShip_187 : decode b6_parseShip 187 = .ok (.iconst 1, 1) := by decide +kernel
theorem d6_parseShip_188 : decode b6_parseShip 188 = .ok (.iadd, 1) := by decide +kernel
theorem d6_parseShip_189 : decode b6_parseShip 189 = .ok (.iastore, 1) := by decide +kernel
theorem d6_parseShip_190 : decode b6_parseShip 190 = .ok (.iconst 1, 1) := by decide +kernel
theorem d6_parseShip_191 : decode b6_parseShip 191 = .ok (.ireturn, 1) := by decide +kernel
abbrev b6_parseSetup : ByteArray := prog_8_method_49_code
def y6_parseSetup : MethodName := ⟨"ChannelScheduleModel", "parseSetup", "()Z"⟩
theorem w6_parseSetup : YV y6_parseSetup b6_parseSetup 2 (some .boolean) 0 := ⟨LW_i 1274 (by decide +kernel) (by decide +kernel), LW_i 50 (by decide +kernel) (by decide +kernel), LW_i 120 (by decide +kernel) (by decide +kernel), LW_i 1275 (by decide +kernel) (by decide +kernel), by decide +kernel, by decide +kernel⟩
theorem d6_parseSetup_0 : decode b6_parseSetup 0 = .ok (.iconst 0, 1) := by decide +kernel
theorem d6_parseSetup_1 : decode b6_parseSetup 1 = .ok (.istore_n 1, 1) := by decide +kernel
theorem d6_parseSetup_2 : decode b6_parseSetup 2 = .ok (.iload_n 1, 1) := by decide +kernel
theorem d6_parseSetup_3 : decode b6_parseSetup 3 = .ok (.sipush 230, 3) := by decide +kernel
theorem d6_parseSetup_6 : decode b6_parseSetup 6 = .ok (.if_icmp .ge 16, 3) := by decide +kernel
theorem d6_parseSetup_9 : decode b6_parseSetup 9 = .ok (.aload_n 0, 1) := by decide +kernel
theorem d6_parseSetup_10 : decode b6_parseSetup 10 = .ok (.getfield 13, 3) := by decide +kernel
theorem d6_parseSetup_13 : decode b6_parseSetup 13 = .ok (.iload_n 1, 1) := by decide +kernel
theorem d6_parseSetup_14 : decode b6_parseSetup 14 = .ok (.iconst 0, 1) := by decide +kernel
theorem d6_parseSetup_15 : decode b6_parseSetup 15 = .ok (.iastore, 1) := by decide +kernel
theorem d6_parseSetup_16 : decode b6_parseSetup 16 = .ok (.iinc 1 1, 3) := by decide +kernel
theorem d6_parseSetup_19 : decode b6_parseSetup 19 = .ok (.goto (-17), 3) := by decide +kernel
theorem d6_parseSetup_22 : decode b6_parseSetup 22 = .ok (.aload_n 0, 1) := by decide +kernel
theorem d6_parseSetup_23 : decode b6_parseSetup 23 = .ok (.ldc 179, 2) := by decide +kernel
theorem d6_parseSetup_25 : decode b6_parseSetup 25 = .ok (.invokevirtual 181, 3) := by decide +kernel
theorem d6_parseSetup_28 : decode b6_parseSetup 28 = .ok (.ifCond .ne 9, 3) := by decide +kernel
theorem d6_parseSetup_31 : decode b6_parseSetup 31 = .ok (.aload_n 0, 1) := by decide +kernel
theorem d6_parseSetup_32 : decode b6_parseSetup 32 = .ok (.iconst 1, 1) := by decide +kernel
theorem d6_parseSetup_33 : decode b6_parseSetup 33 = .ok (.invokevirtual 164, 3) := by decide +kernel
theorem d6_parseSetup_36 : decode b6_parseSetup 36 = .ok (.ireturn, 1) := by decide +kernel
theorem d6_parseSetup_37 : decode b6_parseSetup 37 = .ok (.aload_n 0, 1) := by decide +kernel
theorem d6_parseSetup_38 : decode b6_parseSetup 38 = .ok (.invokevirtual 161, 3) := by decide +kernel
theorem d6_parseSetup_41 : decode b6_parseSetup 41 = .ok (.aload_n 0, 1) := by decide +kernel
theorem d6_parseSetup_42 : decode b6_parseSetup 42 = .ok (.iconst 0, 1) := by decide +kernel
theorem d6_parseSetup_43 : decode b6_parseSetup 43 = .ok (.iconst 0, 1) := by decide +kernel
theorem d6_parseSetup_44 : decode b6_parseSetup 44 = .ok (.bipush 30, 2) := by decide +kernel
theorem d6_parseSetup_46 : decode b6_parseSetup 46 = .ok (.invokevirtual 173, 3) := by decide +kernel
theorem d6_parseSetup_49 : decode b6_parseSetup 49 = .ok (.ifCond .eq 32, 3) := by decide +kernel
theorem d6_parseSetup_52 : decode b6_parseSetup 52 = .ok (.aload_n 0, 1) := by decide +kernel
theorem d6_parseSetup_53 : decode b6_parseSetup 53 = .ok (.iconst 1, 1) := by decide +kernel
theorem d6_parseSetup_54 : decode b6_parseSetup 54 = .ok (.iconst 0, 1) := by decide +kernel
theorem d6_parseSetup_55 : decode b6_parseSetup 55 = .ok (.bipush 30, 2) := by decide +kernel
theorem d6_parseSetup_57 : decode b6_parseSetup 57 = .ok (.invokevirtual 173, 3) := by decide +kernel
theorem d6_parseSetup_60 : decode b6_parseSetup 60 = .ok (.ifCond .eq 21, 3) := by decide +kernel
theorem d6_parseSetup_63 : decode b6_parseSetup 63 = .ok (.aload_n 0, 1) := by decide +kernel
theorem d6_parseSetup_64 : decode b6_parseSetup 64 = .ok (.iconst 2, 1) := by decide +kernel
theorem d6_parseSetup_65 : decode b6_parseSetup 65 = .ok (.iconst 0, 1) := by decide +kernel
theorem d6_parseSetup_66 : decode b6_parseSetup 66 = .ok (.bipush 9, 2) := by decide +kernel
theorem d6_parseSetup_68 : decode b6_parseSetup 68 = .ok (.invokevirtual 173, 3) := by decide +kernel
theorem d6_parseSetup_71 : decode b6_parseSetup 71 = .ok (.ifCond .eq 10, 3) := by decide +kernel
theorem d6_parseSetup_74 : decode b6_parseSetup 74 = .ok (.aload_n 0, 1) := by decide +kernel
theorem d6_parseSetup_75 : decode b6_parseSetup 75 = .ok (.invokevirtual 176, 3) := by decide +kernel
theorem d6_parseSetup_78 : decode b6_parseSetup 78 = .ok (.ifCond .ne 5, 3) := by decide +kernel
theorem d6_parseSetup_81 : decode b6_parseSetup 81 = .ok (.iconst 0, 1) := by decide +kernel
theorem d6_parseSetup_82 : decode b6_parseSetup 82 = .ok (.ireturn, 1) := by decide +kernel
theorem d6_parseSetup_83 : decode b6_parseSetup 83 = .ok (.aload_n 0, 1) := by decide +kernel
theorem d6_parseSetup_84 : decode b6_parseSetup 84 = .ok (.ldc 185, 2) := by decide +kernel
theorem d6_parseSetup_86 : decode b6_parseSetup 86 = .ok (.invokevirtual 181, 3) := by decide +kernel
theorem d6_parseSetup_89 : decode b6_parseSetup 89 = .ok (.ifCond .ne 9, 3) := by decide +kernel
theorem d6_parseSetup_92 : decode b6_parseSetup 92 = .ok (.aload_n 0, 1) := by decide +kernel
theorem d6_parseSetup_93 : decode b6_parseSetup 93 = .ok (.iconst 1, 1) := by decide +kernel
theorem d6_parseSetup_94 : decode b6_parseSetup 94 = .ok (.invokevirtual 164, 3) := by decide +kernel
theorem d6_parseSetup_97 : decode b6_parseSetup 97 = .ok (.ireturn, 1) := by decide +kernel
theorem d6_parseSetup_98 : decode b6_parseSetup 98 = .ok (.aload_n 0, 1) := by decide +kernel
theorem d6_parseSetup_99 : decode b6_parseSetup 99 = .ok (.ldc 185, 2) := by decide +kernel
theorem d6_parseSetup_101 : decode b6_parseSetup 101 = .ok (.invokevirtual 181, 3) := by decide +kernel
theorem d6_parseSetup_104 : decode b6_parseSetup 104 = .ok (.ifCond .eq 12, 3) := by decide +kernel
theorem d6_parseSetup_107 : decode b6_parseSetup 107 = .ok (.aload_n 0, 1) := by decide +kernel
theorem d6_parseSetup_108 : decode b6_parseSetup 108 = .ok (.invokevirtual 187, 3) := by decide +kernel
theorem d6_parseSetup_111 : decode b6_parseSetup 111 = .ok (.ifCond .ne (-13), 3) := by decide +kernel
theorem d6_parseSetup_114 : decode b6_parseSetup 114 = .ok (.iconst 0, 1) := by decide +kernel
theorem d6_parseSetup_115 : decode b6_parseSetup 115 = .ok (.ireturn, 1) := by decide +kernel
theorem d6_parseSetup_116 : decode b6_parseSetup 116 = .ok (.aload_n 0, 1) := by decide +kernel
theorem d6_parseSetup_117 : decode b6_parseSetup 117 = .ok (.getfield 45, 3) := by decide +kernel
theorem d6_parseSetup_120 : decode b6_parseSetup 120 = .ok (.ifCond .eq 11, 3) := by decide +kernel
theorem d6_parseSetup_123 : decode b6_parseSetup 123 = .ok (.aload_n 0, 1) := by decide +kernel
theorem d6_parseSetup_124 : decode b6_parseSetup 124 = .ok (.iconst 1, 1) := by decide +kernel
theorem d6_parseSetup_125 : decode b6_parseSetup 125 = .ok (.invokevirtual 164, 3) := by decide +kernel
theorem d6_parseSetup_128 : decode b6_parseSetup 128 = .ok (.ifCond .eq 7, 3) := by decide +kernel
theorem d6_parseSetup_131 : decode b6_parseSetup 131 = .ok (.iconst 1, 1) := by decide +kernel
theorem d6_parseSetup_132 : decode b6_parseSetup 132 = .ok (.goto 4, 3) := by decide +kernel
theorem d6_parseSetup_135 : decode b6_parseSetup 135 = .ok (.iconst 0, 1) := by decide +kernel
theorem d6_parseSetup_136 : decode b6_parseSetup 136 = .ok (.ireturn, 1) := by decide +kernel
abbrev b6_load : ByteArray := prog_8_method_50_code
def y6_load : MethodName := ⟨"ChannelScheduleModel", "load", "()I"⟩
theorem w6_load : YV y6_load b6_load 2 (some .int) 0 := ⟨LW_i 1376 (by decide +kernel) (by decide +kernel), LW_i 1377 (by decide +kernel) (by decide +kernel), LW_i 120 (by decide +kernel) (by decide +kernel), LW_i 1378 (by decide +kernel) (by decide +kernel), by decide +kernel, by decide +kernel⟩
theorem d6_load_0 : decode b6_load 0 = .ok (.aload_n 0, 1) := by decide +kernel
theorem d6_load_1 : decode b6_load 1 = .ok (.iconst 0, 1) := by decide +kernel
theorem d6_load_2 : decode b6_load 2 = .ok (.bipush 9, 2) := by decide +kernel
theorem d6_load_4 : decode b6_load 4 = .ok (.invokevirtual 79, 3) := by decide +kernel
theorem d6_load_7 : decode b6_load 7 = .ok (.aload_n 0, 1) := by decide +kernel
theorem d6_load_8 : decode b6_load 8 = .ok (.invokevirtual 68, 3) := by decide +kernel
theorem d6_load_11 : decode b6_load 11 = .ok (.aload_n 0, 1) := by decide +kernel
theorem d6_load_12 : decode b6_load 12 = .ok (.invokevirtual 71, 3) := by decide +kernel
theorem d6_load_15 : decode b6_load 15 = .ok (.istore_n 1, 1) := by decide +kernel
theorem d6_load_16 : decode b6_load 16 = .ok (.aload_n 0, 1) := by decide +kernel
theorem d6_load_17 : decode b6_load 17 = .ok (.iconst 0, 1) := by decide +kernel
theorem d6_load_18 : decode b6_load 18 = .ok (.putfield 27, 3) := by decide +kernel
theorem d6_load_21 : decode b6_load 21 = .ok (.iload_n 1, 1) := by decide +kernel
theorem d6_load_22 : decode b6_load 22 = .ok (.ifCond .ne 10, 3) := by decide +kernel
theorem d6_load_25 : decode b6_load 25 = .ok (.aload_n 0, 1) := by decide +kernel
theorem d6_load_26 : decode b6_load 26 = .ok (.bipush 9, 2) := by decide +kernel
theorem d6_load_28 : decode b6_load 28 = .ok (.iconst 0, 1) := by decide +kernel
theorem d6_load_29 : decode b6_load 29 = .ok (.invokevirtual 79, 3) := by decide +kernel
theorem d6_load_32 : decode b6_load 32 = .ok (.aload_n 0, 1) := by decide +kernel
theorem d6_load_33 : decode b6_load 33 = .ok (.iload_n 1, 1) := by decide +kernel
theorem d6_load_34 : decode b6_load 34 = .ok (.ifCond .ne 7, 3) := by decide +kernel
theorem d6_load_37 : decode b6_load 37 = .ok (.iconst 1, 1) := by decide +kernel
theorem d6_load_38 : decode b6_load 38 = .ok (.goto 4, 3) := by decide +kernel
theorem d6_load_41 : decode b6_load 41 = .ok (.iconst 0, 1) := by decide +kernel
theorem d6_load_42 : decode b6_load 42 = .ok (.iconst 0, 1) := by decide +kernel
theorem d6_load_43 : decode b6_load 43 = .ok (.iconst 0, 1) := by decide +kernel
theorem d6_load_44 : decode b6_load 44 = .ok (.invokevirtual 148, 3) := by decide +kernel
theorem d6_load_47 : decode b6_load 47 = .ok (.ifCond .eq 5, 3) := by decide +kernel
theorem d6_load_50 : decode b6_load 50 = .ok (.iconst 0, 1) := by decide +kernel
theorem d6_load_51 : decode b6_load 51 = .ok (.ireturn, 1) := by decide +kernel
theorem d6_load_52 : decode b6_load 52 = .ok (.aload_n 0, 1) := by decide +kernel
theorem d6_load_53 : decode b6_load 53 = .ok (.iconst 0, 1) := by decide +kernel
theorem d6_load_54 : decode b6_load 54 = .ok (.putfield 21, 3) := by decide +kernel
theorem d6_load_57 : decode b6_load 57 = .ok (.aload_n 0, 1) := by decide +kernel
theorem d6_load_58 : decode b6_load 58 = .ok (.getfield 17, 3) := by decide +kernel
theorem d6_load_61 : decode b6_load 61 = .ok (.iconst 0, 1) := by decide +kernel
theorem d6_load_62 : decode b6_load 62 = .ok (.iconst 0, 1) := by decide +kernel
theorem d6_load_63 : decode b6_load 63 = .ok (.bastore, 1) := by decide +kernel
theorem d6_load_64 : decode b6_load 64 = .ok (.aload_n 0, 1) := by decide +kernel
theorem d6_load_65 : decode b6_load 65 = .ok (.getfield 17, 3) := by decide +kernel
theorem d6_load_68 : decode b6_load 68 = .ok (.iconst 1, 1) := by decide +kernel
theorem d6_load_69 : decode b6_load 69 = .ok (.iconst 0, 1) := by decide +kernel
theorem d6_load_70 : decode b6_load 70 = .ok (.bastore, 1) := by decide +kernel
theorem d6_load_71 : decode b6_load 71 = .ok (.aload_n 0, 1) := by decide +kernel
theorem d6_load_72 : decode b6_load 72 = .ok (.getfield 13, 3) := by decide +kernel
theorem d6_load_75 : decode b6_load 75 = .ok (.iconst 4, 1) := by decide +kernel
theorem d6_load_76 : decode b6_load 76 = .ok (.iaload, 1) := by decide +kernel
theorem d6_load_77 : decode b6_load 77 = .ok (.ireturn, 1) := by decide +kernel
abbrev b6_nameOf : ByteArray := prog_8_method_51_code
def y6_nameOf : MethodName := ⟨"ChannelScheduleModel", "nameOf", "(I)Ljava/lang/String;"⟩
theorem w6_nameOf : YS y6_nameOf b6_nameOf 1 (some (.object "java/lang/String")) 1 := ⟨LW_i 1396 (by decide +kernel) (by decide +kernel), LW_i 120 (by decide +kernel) (by decide +kernel), LW_i 1397 (by decide +kernel) (by decide +kernel), by decide +kernel, by decide +kernel⟩
theorem d6_nameOf_0 : decode b6_nameOf 0 = .ok (.iload_n 0, 1) := by decide +kernel
theorem d6_nameOf_1 : decode b6_nameOf 1 = .ok (.tableswitch 57 0 5 #[39, 42, 45, 48, 51, 54], 39) := by decide +kernel
theorem d6_nameOf_40 : decode b6_nameOf 40 = .ok (.ldc 190, 2) := by decide +kernel
theorem d6_nameOf_42 : decode b6_nameOf 42 = .ok (.areturn, 1) := by decide +kernel
theorem d6_nameOf_43 : decode b6_nameOf 43 = .ok (.ldc 192, 2) := by decide +kernel
theorem d6_nameOf_45 : decode b6_nameOf 45 = .ok (.areturn, 1) := by decide +kernel
theorem d6_nameOf_46 : decode b6_nameOf 46 = .ok (.ldc 194, 2) := by decide +kernel
theorem d6_nameOf_48 : decode b6_nameOf 48 = .ok (.areturn, 1) := by decide +kernel
theorem d6_nameOf_49 : decode b6_nameOf 49 = .ok (.ldc 196, 2) := by decide +kernel
theorem d6_nameOf_51 : decode b6_nameOf 51 = .ok (.areturn, 1) := by decide +kernel
theorem d6_nameOf_52 : decode b6_nameOf 52 = .ok (.ldc 198, 2) := by decide +kernel
theorem d6_nameOf_54 : decode b6_nameOf 54 = .ok (.areturn, 1) := by decide +kernel
theorem d6_nameOf_55 : decode b6_nameOf 55 = .ok (.ldc 200, 2) := by decide +kernel
theorem d6_nameOf_57 : decode b6_nameOf 57 = .ok (.areturn, 1) := by decide +kernel
theorem d6_nameOf_58 : decode b6_nameOf 58 = .ok (.ldc 202, 2) := by decide +kernel
theorem d6_nameOf_60 : decode b6_nameOf 60 = .ok (.areturn, 1) := by decide +kernel
abbrev b6_commandHere : ByteArray := prog_8_method_52_code
def y6_commandHere : MethodName := ⟨"ChannelScheduleModel", "commandHere", "()I"⟩
theorem w6_commandHere : YV y6_commandHere b6_commandHere 2 (some .int) 0 := ⟨LW_i 1393 (by decide +kernel) (by decide +kernel), LW_i 63 (by decide +kernel) (by decide +kernel), LW_i 120 (by decide +kernel) (by decide +kernel), LW_i 1394 (by decide +kernel) (by decide +kernel), by decide +kernel, by decide +kernel⟩
theorem d6_commandHere_0 : decode b6_commandHere 0 = .ok (.iconst 0, 1) := by decide +kernel
theorem d6_commandHere_1 : decode b6_commandHere 1 = .ok (.istore_n 1, 1) := by decide +kernel
theorem d6_commandHere_2 : decode b6_commandHere 2 = .ok (.iload_n 1, 1) := by decide +kernel
theorem d6_commandHere_3 : decode b6_commandHere 3 = .ok (.bipush 6, 2) := by decide +kernel
theorem d6_commandHere_5 : decode b6_commandHere 5 = .ok (.if_icmp .gt 22, 3) := by decide +kernel
theorem d6_commandHere_8 : decode b6_commandHere 8 = .ok (.aload_n 0, 1) := by decide +kernel
theorem d6_commandHere_9 : decode b6_commandHere 9 = .ok (.iload_n 1, 1) := by decide +kernel
theorem d6_commandHere_10 : decode b6_commandHere 10 = .ok (.invokestatic 204, 3) := by decide +kernel
theorem d6_commandHere_13 : decode b6_commandHere 13 = .ok (.invokevirtual 181, 3) := by decide +kernel
theorem d6_commandHere_16 : decode b6_commandHere 16 = .ok (.ifCond .eq 5, 3) := by decide +kernel
theorem d6_commandHere_19 : decode b6_commandHere 19 = .ok (.iload_n 1, 1) := by decide +kernel
theorem d6_commandHere_20 : decode b6_commandHere 20 = .ok (.ireturn, 1) := by decide +kernel
theorem d6_commandHere_21 : decode b6_commandHere 21 = .ok (.iinc 1 1, 3) := by decide +kernel
theorem d6_commandHere_24 : decode b6_commandHere 24 = .ok (.goto (-22), 3) := by decide +kernel
theorem d6_commandHere_27 : decode b6_commandHere 27 = .ok (.iconst (-1), 1) := by decide +kernel
theorem d6_commandHere_28 : decode b6_commandHere 28 = .ok (.ireturn, 1) := by decide +kernel
abbrev b6_parseNumber : ByteArray := prog_8_method_53_code
def y6_parseNumber : MethodName := ⟨"ChannelScheduleModel", "parseNumber", "(I)Z"⟩
theorem w6_parseNumber : YV y6_parseNumber b6_parseNumber 2 (some .boolean) 1 := ⟨LW_i 1411 (by decide +kernel) (by decide +kernel), LW_i 65 (by decide +kernel) (by decide +kernel), LW_i 120 (by decide +kernel) (by decide +kernel), LW_i 1412 (by decide +kernel) (by decide +kernel), by decide +kernel, by decide +kernel⟩
theorem d6_parseNumber_0 : decode b6_parseNumber 0 = .ok (.aload_n 0, 1) := by decide +kernel
theorem d6_parseNumber_1 : decode b6_parseNumber 1 = .ok (.getfield 45, 3) := by decide +kernel
theorem d6_parseNumber_4 : decode b6_parseNumber 4 = .ok (.iconst 2, 1) := by decide +kernel
theorem d6_parseNumber_5 : decode b6_parseNumber 5 = .ok (.if_icmp .eq 9, 3) := by decide +kernel
theorem d6_parseNumber_8 : decode b6_parseNumber 8 = .ok (.aload_n 0, 1) := by decide +kernel
theorem d6_parseNumber_9 : decode b6_parseNumber 9 = .ok (.iconst 1, 1) := by decide +kernel
theorem d6_parseNumber_10 : decode b6_parseNumber 10 = .ok (.invokevirtual 164, 3) := by decide +kernel
theorem d6_parseNumber_13 : decode b6_parseNumber 13 = .ok (.ireturn, 1) := by decide +kernel
theorem d6_parseNumber_14 : decode b6_parseNumber 14 = .ok (.aload_n 0, 1) := by decide +kernel
theorem d6_parseNumber_15 : decode b6_parseNumber 15 = .ok (.getfield 54, 3) := by decide +kernel
theorem d6_parseNumber_18 : decode b6_parseNumber 18 = .ok (.iload_n 1, 1) := by decide +kernel
theorem d6_parseNumber_19 : decode b6_parseNumber 19 = .ok (.aload_n 0, 1) := by decide +kernel
theorem d6_parseNumber_20 : decode b6_parseNumber 20 = .ok (.getfield 51, 3) := by decide +kernel
theorem d6_parseNumber_23 : decode b6_parseNumber 23 = .ok (.iastore, 1) := by decide +kernel
theorem d6_parseNumber_24 : decode b6_parseNumber 24 = .ok (.aload_n 0, 1) := by decide +kernel
theorem d6_parseNumber_25 : decode b6_parseNumber 25 = .ok (.invokevirtual 161, 3) := by decide +kernel
theorem d6_parseNumber_28 : decode b6_parseNumber 28 = .ok (.iconst 1, 1) := by decide +kernel
theorem d6_parseNumber_29 : decode b6_parseNumber 29 = .ok (.ireturn, 1) := by decide +kernel
abbrev b6_parseShipName : ByteArray := prog_8_method_54_code
def y6_parseShipName : MethodName := ⟨"ChannelScheduleModel", "parseShipName", "(I)Z"⟩
theorem w6_parseShipName : YV y6_parseShipName b6_parseShipName 2 (some .boolean) 1 := ⟨LW_i 1415 (by decide +kernel) (by decide +kernel), LW_i 66 (by decide +kernel) (by decide +kernel), LW_i 120 (by decide +kernel) (by decide +kernel), LW_i 1416 (by decide +kernel) (by decide +kernel), by decide +kernel, by decide +kernel⟩
theorem d6_parseShipName_0 : decode b6_parseShipName 0 = .ok (.aload_n 0, 1) := by decide +kernel
theorem d6_parseShipName_1 : decode b6_parseShipName 1 = .ok (.invokevirtual 167, 3) := by decide +kernel
theorem d6_parseShipName_4 : decode b6_parseShipName 4 = .ok (.ifCond .ne 5, 3) := by decide +kernel
theorem d6_parseShipName_7 : decode b6_parseShipName 7 = .ok (.iconst 0, 1) := by decide +kernel
theorem d6_parseShipName_8 : decode b6_parseShipName 8 = .ok (.ireturn, 1) := by decide +kernel
theorem d6_parseShipName_9 : decode b6_parseShipName 9 = .ok (.aload_n 0, 1) := by decide +kernel
theorem d6_parseShipName_10 : decode b6_parseShipName 10 = .ok (.getfield 54, 3) := by decide +kernel
theorem d6_parseShipName_13 : decode b6_parseShipName 13 = .ok (.iload_n 1, 1) := by decide +kernel
theorem d6_parseShipName_14 : decode b6_parseShipName 14 = .ok (.aload_n 0, 1) := by decide +kernel
theorem d6_parseShipName_15 : decode b6_parseShipName 15 = .ok (.aload_n 0, 1) := by decide +kernel
theorem d6_parseShipName_16 : decode b6_parseShipName 16 = .ok (.getfield 48, 3) := by decide +kernel
theorem d6_parseShipName_19 : decode b6_parseShipName 19 = .ok (.aload_n 0, 1) := by decide +kernel
theorem d6_parseShipName_20 : decode b6_parseShipName 20 = .ok (.getfield 42, 3) := by decide +kernel
theorem d6_parseShipName_23 : decode b6_parseShipName 23 = .ok (.aload_n 0, 1) := by decide +kernel
theorem d6_parseShipName_24 : decode b6_parseShipName 24 = .ok (.getfield 48, 3) := by decide +kernel
theorem d6_parseShipName_27 : decode b6_parseShipName 27 = .ok (.isub, 1) := by decide +kernel
theorem d6_parseShipName_28 : decode b6_parseShipName 28 = .ok (.invokevirtual 170, 3) := by decide +kernel
theorem d6_parseShipName_31 : decode b6_parseShipName 31 = .ok (.iastore, 1) := by decide +kernel
theorem d6_parseShipName_32 : decode b6_parseShipName 32 = .ok (.aload_n 0, 1) := by decide +kernel
theorem d6_parseShipName_33 : decode b6_parseShipName 33 = .ok (.getfield 54, 3) := by decide +kernel
theorem d6_parseShipName_36 : decode b6_parseShipName 36 = .ok (.iload_n 1, 1) := by decide +kernel
theorem d6_parseShipName_37 : decode b6_parseShipName 37 = .ok (.iaload, 1) := by decide +kernel
theorem d6_parseShipName_38 : decode b6_parseShipName 38 = .ok (.iconst (-1), 1) := by decide +kernel
theorem d6_parseShipName_39 : decode b6_parseShipName 39 = .ok (.if_icmp .ne 9, 3) := by decide +kernel
theorem d6_parseShipName_42 : decode b6_parseShipName 42 = .ok (.aload_n 0, 1) := by decide +kernel
theorem d6_parseShipName_43 : decode b6_parseShipName 43 = .ok (.iconst 3, 1) := by decide +kernel
theorem d6_parseShipName_44 : decode b6_parseShipName 44 = .ok (.invokevirtual 164, 3) := by decide +kernel
theorem d6_parseShipName_47 : decode b6_parseShipName 47 = .ok (.ireturn, 1) := by decide +kernel
theorem d6_parseShipName_48 : decode b6_parseShipName 48 = .ok (.aload_n 0, 1) := by decide +kernel
theorem d6_parseShipName_49 : decode b6_parseShipName 49 = .ok (.invokevirtual 161, 3) := by decide +kernel
theorem d6_parseShipName_52 : decode b6_parseShipName 52 = .ok (.iconst 1, 1) := by decide +kernel
theorem d6_parseShipName_53 : decode b6_parseShipName 53 = .ok (.ireturn, 1) := by decide +kernel
abbrev b6_parseDirection : ByteArray := prog_8_method_55_code
def y6_parseDirection : MethodName := ⟨"ChannelScheduleModel", "parseDirection", "(I)Z"⟩
theorem w6_parseDirection : YV y6_parseDirection b6_parseDirection 2 (some .boolean) 1 := ⟨LW_i 1419 (by decide +kernel) (by decide +kernel), LW_i 67 (by decide +kernel) (by decide +kernel), LW_i 120 (by decide +kernel) (by decide +kernel), LW_i 1420 (by decide +kernel) (by decide +kernel), by decide +kernel, by decide +kernel⟩
theorem d6_parseDirection_0 : decode b6_parseDirection 0 = .ok (.aload_n 0, 1) := by decide +kernel
theorem d6_parseDirection_1 : decode b6_parseDirection 1 = .ok (.ldc 208, 2) := by decide +kernel
theorem d6_parseDirection_3 : decode b6_parseDirection 3 = .ok (.invokevirtual 181, 3) := by decide +kernel
theorem d6_parseDirection_6 : decode b6_parseDirection 6 = .ok (.ifCond .ne 18, 3) := by decide +kernel
theorem d6_parseDirection_9 : decode b6_parseDirection 9 = .ok (.aload_n 0, 1) := by decide +kernel
theorem d6_parseDirection_10 : decode b6_parseDirection 10 = .ok (.ldc 209, 2) := by decide +kernel
theorem d6_parseDirection_12 : decode b6_parseDirection 12 = .ok (.invokevirtual 181, 3) := by decide +kernel
theorem d6_parseDirection_15 : decode b6_parseDirection 15 = .ok (.ifCond .ne 9, 3) := by decide +kernel
theorem d6_parseDirection_18 : decode b6_parseDirection 18 = .ok (.aload_n 0, 1) := by decide +kernel
theorem d6_parseDirection_19 : decode b6_parseDirection 19 = .ok (.iconst 1, 1) := by decide +kernel
theorem d6_parseDirection_20 : decode b6_parseDirection 20 = .ok (.invokevirtual 164, 3) := by decide +kernel
theorem d6_parseDirection_23 : decode b6_parseDirection 23 = .ok (.ireturn, 1) := by decide +kernel
theorem d6_parseDirection_24 : decode b6_parseDirection 24 = .ok (.aload_n 0, 1) := by decide +kernel
theorem d6_parseDirection_25 : decode b6_parseDirection 25 = .ok (.getfield 54, 3) := by decide +kernel
theorem d6_parseDirection_28 : decode b6_parseDirection 28 = .ok (.iload_n 1, 1) := by decide +kernel
theorem d6_parseDirection_29 : decode b6_parseDirection 29 = .ok (.aload_n 0, 1) := by decide +kernel
theorem d6_parseDirection_30 : decode b6_parseDirection 30 = .ok (.ldc 208, 2) := by decide +kernel
theorem d6_parseDirection_32 : decode b6_parseDirection 32 = .ok (.invokevirtual 181, 3) := by decide +kernel
theorem d6_parseDirection_35 : decode b6_parseDirection 35 = .ok (.ifCond .eq 7, 3) := by decide +kernel
theorem d6_parseDirection_38 : decode b6_parseDirection 38 = .ok (.iconst 1, 1) := by decide +kernel
theorem d6_parseDirection_39 : decode b6_parseDirection 39 = .ok (.goto 4, 3) := by decide +kernel
theorem d6_parseDirection_42 : decode b6_parseDirection 42 = .ok (.iconst 0, 1) := by decide +kernel
theorem d6_parseDirection_43 : decode b6_parseDirection 43 = .ok (.iastore, 1) := by decide +kernel
theorem d6_parseDirection_44 : decode b6_parseDirection 44 = .ok (.aload_n 0, 1) := by decide +kernel
theorem d6_parseDirection_45 : decode b6_parseDirection 45 = .ok (.invokevirtual 161, 3) := by decide +kernel
theorem d6_parseDirection_48 : decode b6_parseDirection 48 = .ok (.iconst 1, 1) := by decide +kernel
theorem d6_parseDirection_49 : decode b6_parseDirection 49 = .ok (.ireturn, 1) := by decide +kernel
abbrev b6_parseArguments : ByteArray := prog_8_method_56_code
def y6_parseArguments : MethodName := ⟨"ChannelScheduleModel", "parseArguments", "(II)Z"⟩
theorem w6_parseArguments : YV y6_parseArguments b6_parseArguments 3 (some .boolean) 2 := ⟨LW_i 1407 (by decide +kernel) (by decide +kernel), LW_i 64 (by decide +kernel) (by decide +kernel), LW_i 120 (by decide +kernel) (by decide +kernel), LW_i 1408 (by decide +kernel) (by decide +kernel), by decide +kernel, by decide +kernel⟩
theorem d6_parseArguments_0 : decode b6_parseArguments 0 = .ok (.iload_n 1, 1) := by decide +kernel
theorem d6_parseArguments_1 : decode b6_parseArguments 1 = .ok (.iconst 3, 1) := by decide +kernel
theorem d6_parseArguments_2 : decode b6_parseArguments 2 = .ok (.if_icmp .ne 27, 3) := by decide +kernel
theorem d6_parseArguments_5 : decode b6_parseArguments 5 = .ok (.aload_n 0, 1) := by decide +kernel
theorem d6_parseArguments_6 : decode b6_parseArguments 6 = .ok (.iload_n 2, 1) := by decide +kernel
theorem d6_parseArguments_7 : decode b6_parseArguments 7 = .ok (.invokevirtual 211, 3) := by decide +kernel
theorem d6_parseArguments_10 : decode b6_parseArguments 10 = .ok (.ifCond .eq 17, 3) := by decide +kernel
theorem d6_parseArguments_13 : decode b6_parseArguments 13 = .ok (.aload_n 0, 1) := by decide +kernel
theorem d6_parseArguments_14 : decode b6_parseArguments 14 = .ok (.iload_n 2, 1) := by decide +kernel
theorem d6_parseArguments_15 : decode b6_parseArguments 15 = .ok (.iconst 1, 1) := by decide +kernel
theorem d6_parseArguments_16 : decode b6_parseArguments 16 = .ok (.iadd, 1) := by decide +kernel
theorem d6_parseArguments_17 : decode b6_parseArguments 17 = .ok (.invokevirtual 211, 3) := by decide +kernel
theorem d6_parseArguments_20 : decode b6_parseArguments 20 = .ok (.ifCond .eq 7, 3) := by decide +kernel
theorem d6_parseArguments_23 : decode b6_parseArguments 23 = .ok (.iconst 1, 1) := by decide +kernel
theorem d6_parseArguments_24 : decode b6_parseArguments 24 = .ok (.goto 4, 3) := by decide +kernel
theorem d6_parseArguments_27 : decode b6_parseArguments 27 = .ok (.iconst 0, 1) := by decide +kernel
theorem d6_parseArguments_28 : decode b6_parseArguments 28 = .ok (.ireturn, 1) := by decide +kernel
theorem d6_parseArguments_29 : decode b6_parseArguments 29 = .ok (.iload_n 1, 1) := by decide +kernel
theorem d6_parseArguments_30 : decode b6_parseArguments 30 = .ok (.iconst 1, 1) := by decide +kernel
theorem d6_parseArguments_31 : decode b6_parseArguments 31 = .ok (.if_icmp .le 9, 3) := by decide +kernel
theorem d6_parseArguments_34 : decode b6_parseArguments 34 = .ok (.aload_n 0, 1) := by decide +kernel
theorem d6_parseArguments_35 : decode b6_parseArguments 35 = .ok (.iload_n 2, 1) := by decide +kernel
theorem d6_parseArguments_36 : decode b6_parseArguments 36 = .ok (.invokevirtual 211, 3) := by decide +kernel
theorem d6_parseArguments_39 : decode b6_parseArguments 39 = .ok (.ireturn, 1) := by decide +kernel
theorem d6_parseArguments_40 : decode b6_parseArguments 40 = .ok (.aload_n 0, 1) := by decide +kernel
theorem d6_parseArguments_41 : decode b6_parseArguments 41 = .ok (.iload_n 2, 1) := by decide +kernel
theorem d6_parseArguments_42 : decode b6_parseArguments 42 = .ok (.invokevirtual 214, 3) := by decide +kernel
theorem d6_parseArguments_45 : decode b6_parseArguments 45 = .ok (.ifCond .eq 23, 3) := by decide +kernel
theorem d6_parseArguments_48 : decode b6_parseArguments 48 = .ok (.aload_n 0, 1) := by decide +kernel
theorem d6_parseArguments_49 : decode b6_parseArguments 49 = .ok (.iload_n 2, 1) := by decide +kernel
theorem d6_parseArguments_50 : decode b6_parseArguments 50 = .ok (.iconst 1, 1) := by decide +kernel
theorem d6_parseArguments_51 : decode b6_parseArguments 51 = .ok (.iadd, 1) := by decide +kernel
theorem d6_parseArguments_52 : decode b6_parseArguments 52 = .ok (.invokevirtual 217, 3) := by decide +kernel
theorem d6_parseArguments_55 : decode b6_parseArguments 55 = .ok (.ifCond .eq 13, 3) := by decide +kernel
theorem d6_parseArguments_58 : decode b6_parseArguments 58 = .ok (.aload_n 0, 1) := by decide +kernel
theorem d6_parseArguments_59 : decode b6_parseArguments 59 = .ok (.iload_n 2, 1) := by decide +kernel
theorem d6_parseArguments_60 : decode b6_parseArguments 60 = .ok (.iconst 2, 1) := by decide +kernel
theorem d6_parseArguments_61 : decode b6_parseArguments 61 = .ok (.iadd, 1) := by decide +kernel
theorem d6_parseArguments_62 : decode b6_parseArguments 62 = .ok (.invokevirtual 211, 3) := by decide +kernel
theorem d6_parseArguments_65 : decode b6_parseArguments 65 = .ok (.ifCond .ne 5, 3) := by decide +kernel
theorem d6_parseArguments_68 : decode b6_parseArguments 68 = .ok (.iconst 0, 1) := by decide +kernel
theorem d6_parseArguments_69 : decode b6_parseArguments 69 = .ok (.ireturn, 1) := by decide +kernel
theorem d6_parseArguments_70 : decode b6_parseArguments 70 = .ok (.iload_n 1, 1) := by decide +kernel
theorem d6_parseArguments_71 : decode b6_parseArguments 71 = .ok (.ifCond .eq 13, 3) := by decide +kernel
theorem d6_parseArguments_74 : decode b6_parseArguments 74 = .ok (.aload_n 0, 1) := by decide +kernel
theorem d6_parseArguments_75 : decode b6_parseArguments 75 = .ok (.iload_n 2, 1) := by decide +kernel
theorem d6_parseArguments_76 : decode b6_parseArguments 76 = .ok (.iconst 3, 1) := by decide +kernel
theorem d6_parseArguments_77 : decode b6_parseArguments 77 = .ok (.iadd, 1) := by decide +kernel
theorem d6_parseArguments_78 : decode b6_parseArguments 78 = .ok (.invokevirtual 211, 3) := by decide +kernel
theorem d6_parseArguments_81 : decode b6_parseArguments 81 = .ok (.ifCond .eq 7, 3) := by decide +kernel
theorem d6_parseArguments_84 : decode b6_parseArguments 84 = .ok (.iconst 1, 1) := by decide +kernel
theorem d6_parseArguments_85 : decode b6_parseArguments 85 = .ok (.goto 4, 3) := by decide +kernel
theorem d6_parseArguments_88 : decode b6_parseArguments 88 = .ok (.iconst 0, 1) := by decide +kernel
theorem d6_parseArguments_89 : decode b6_parseArguments 89 = .ok (.ireturn, 1) := by decide +kernel
abbrev b6_parseScript : ByteArray := prog_8_method_57_code
def y6_parseScript : MethodName := ⟨"ChannelScheduleModel", "parseScript", "()I"⟩
theorem w6_parseScript : YV y6_parseScript b6_parseScript 4 (some .int) 0 := ⟨LW_i 1389 (by decide +kernel) (by decide +kernel), LW_i 62 (by decide +kernel) (by decide +kernel), LW_i 120 (by decide +kernel) (by decide +kernel), LW_i 1390 (by decide +kernel) (by decide +kernel), by decide +kernel, by decide +kernel⟩
theorem d6_parseScript_0 : decode b6_parseScript 0 = .ok (.iconst 0, 1) := by decide +kernel
theorem d6_parseScript_1 : decode b6_parseScript 1 = .ok (.istore_n 1, 1) := by decide +kernel
theorem d6_parseScript_2 : decode b6_parseScript 2 = .ok (.aload_n 0, 1) := by decide +kernel
theorem d6_parseScript_3 : decode b6_parseScript 3 = .ok (.getfield 45, 3) := by decide +kernel
theorem d6_parseScript_6 : decode b6_parseScript 6 = .ok (.ifCond .eq 88, 3) := by decide +kernel
theorem d6_parseScript_9 : decode b6_parseScript 9 = .ok (.aload_n 0, 1) := by decide +kernel
theorem d6_parseScript_10 : decode b6_parseScript 10 = .ok (.invokevirtual 220, 3) := by decide +kernel
theorem d6_parseScript_13 : decode b6_parseScript 13 = .ok (.istore_n 2, 1) := by decide +kernel
theorem d6_parseScript_14 : decode b6_parseScript 14 = .ok (.iload_n 2, 1) := by decide +kernel
theorem d6_parseScript_15 : decode b6_parseScript 15 = .ok (.iconst (-1), 1) := by decide +kernel
theorem d6_parseScript_16 : decode b6_parseScript 16 = .ok (.if_icmp .eq 25, 3) := by decide +kernel
theorem d6_parseScript_19 : decode b6_parseScript 19 = .ok (.iload_n 1, 1) := by decide +kernel
theorem d6_parseScript_20 : decode b6_parseScript 20 = .ok (.bipush 30, 2) := by decide +kernel
theorem d6_parseScript_22 : decode b6_parseScript 22 = .ok (.if_icmp .lt 11, 3) := by decide +kernel
theorem d6_parseScript_25 : decode b6_parseScript 25 = .ok (.aload_n 0, 1) := by decide +kernel
theorem d6_parseScript_26 : decode b6_parseScript 26 = .ok (.iconst 4, 1) := by decide +kernel
theorem d6_parseScript_27 : decode b6_parseScript 27 = .ok (.invokevirtual 164, 3) := by decide +kernel
theorem d6_parseScript_30 : decode b6_parseScript 30 = .ok (.ifCond .eq 7, 3) := by decide +kernel
theorem d6_parseScript_33 : decode b6_parseScript 33 = .ok (.iconst 1, 1) := by decide +kernel
theorem d6_parseScript_34 : decode b6_parseScript 34 = .ok (.goto 12, 3) := by decide +kernel
theorem d6_parseScript_37 : decode b6_parseScript 37 = .ok (.iconst 0, 1) := by decide +kernel
theorem d6_parseScript_38 : decode b6_parseScript 38 = .ok (.goto 8, 3) := by decide +kernel
theorem d6_parseScript_41 : decode b6_parseScript 41 = .ok (.aload_n 0, 1) := by decide +kernel
theorem d6_parseScript_42 : decode b6_parseScript 42 = .ok (.iconst 1, 1) := by decide +kernel
theorem d6_parseScript_43 : decode b6_parseScript 43 = .ok (.invokevirtual 164, 3) := by decide +kernel
theorem d6_parseScript_46 : decode b6_parseScript 46 = .ok (.istore_n 3, 1) := by decide +kernel
theorem d6_parseScript_47 : decode b6_parseScript 47 = .ok (.iload_n 3, 1) := by decide +kernel
theorem d6_parseScript_48 : decode b6_parseScript 48 = .ok (.ifCond .ne 5, 3) := by decide +kernel
theorem d6_parseScript_51 : decode b6_parseScript 51 = .ok (.iconst (-1), 1) := by decide +kernel
theorem d6_parseScript_52 : decode b6_parseScript 52 = .ok (.ireturn, 1) := by decide +kernel
theorem d6_parseScript_53 : decode b6_parseScript 53 = .ok (.aload_n 0, 1) := by decide +kernel
theorem d6_parseScript_54 : decode b6_parseScript 54 = .ok (.invokevirtual 161, 3) := by decide +kernel
theorem d6_parseScript_57 : decode b6_parseScript 57 = .ok (.aload_n 0, 1) := by decide +kernel
theorem d6_parseScript_58 : decode b6_parseScript 58 = .ok (.getfield 54, 3) := by decide +kernel
theorem d6_parseScript_61 : decode b6_parseScript 61 = .ok (.iload_n 1, 1) := by decide +kernel
theorem d6_parseScript_62 : decode b6_parseScript 62 = .ok (.iconst 5, 1) := by decide +kernel
theorem d6_parseScript_63 : decode b6_parseScript 63 = .ok (.imul, 1) := by decide +kernel
theorem d6_parseScript_64 : decode b6_parseScript 64 = .ok (.iload_n 2, 1) := by decide +kernel
theorem d6_parseScript_65 : decode b6_parseScript 65 = .ok (.iastore, 1) := by decide +kernel
theorem d6_parseScript_66 : decode b6_parseScript 66 = .ok (.aload_n 0, 1) := by decide +kernel
theorem d6_parseScript_67 : decode b6_parseScript 67 = .ok (.iload_n 2, 1) := by decide +kernel
theorem d6_parseScript_68 : decode b6_parseScript 68 = .ok (.iload_n 1, 1) := by decide +kernel
theorem d6_parseScript_69 : decode b6_parseScript 69 = .ok (.iconst 5, 1) := by decide +kernel
theorem d6_parseScript_70 : decode b6_parseScript 70 = .ok (.imul, 1) := by decide +kernel
theorem d6_parseScript_71 : decode b6_parseScript 71 = .ok (.iconst 1, 1) := by decide +kernel
theorem d6_parseScript_72 : decode b6_parseScript 72 = .ok (.iadd, 1) := by decide +kernel
theorem d6_parseScript_73 : decode b6_parseScript 73 = .ok (.invokevirtual 223, 3) := by decide +kernel
theorem d6_parseScript_76 : decode b6_parseScript 76 = .ok (.ifCond .eq 10, 3) := by decide +kernel
theorem d6_parseScript_79 : decode b6_parseScript 79 = .ok (.aload_n 0, 1) := by decide +kernel
theorem d6_parseScript_80 : decode b6_parseScript 80 = .ok (.invokevirtual 176, 3) := by decide +kernel
theorem d6_parseScript_83 : decode b6_parseScript 83 = .ok (.ifCond .ne 5, 3) := by decide +kernel
theorem d6_parseScript_86 : decode b6_parseScript 86 = .ok (.iconst (-1), 1) := by decide +kernel
theorem d6_parseScript_87 : decode b6_parseScript 87 = .ok (.ireturn, 1) := by decide +kernel
theorem d6_parseScript_88 : decode b6_parseScript 88 = .ok (.iinc 1 1, 3) := by decide +kernel
theorem d6_parseScript_91 : decode b6_parseScript 91 = .ok (.goto (-89), 3) := by decide +kernel
theorem d6_parseScript_94 : decode b6_parseScript 94 = .ok (.iload_n 1, 1) := by decide +kernel
theorem d6_parseScript_95 : decode b6_parseScript 95 = .ok (.ireturn, 1) := by decide +kernel
abbrev b6_canCancel : ByteArray := prog_8_method_58_code
def y6_canCancel : MethodName := ⟨"ChannelScheduleModel", "canCancel", "(I)Z"⟩
theorem w6_canCancel : YV y6_canCancel b6_canCancel 2 (some .boolean) 1 := ⟨LW_i 1485 (by decide +kernel) (by decide +kernel), LW_i 83 (by decide +kernel) (by decide +kernel), LW_i 120 (by decide +kernel) (by decide +kernel), LW_i 1486 (by decide +kernel) (by decide +kernel), by decide +kernel, by decide +kernel⟩
theorem d6_canCancel_0 : decode b6_canCancel 0 = .ok (.aload_n 0, 1) := by decide +kernel
theorem d6_canCancel_1 : decode b6_canCancel 1 = .ok (.iload_n 1, 1) := by decide +kernel
theorem d6_canCancel_2 : decode b6_canCancel 2 = .ok (.iconst 2, 1) := by decide +kernel
theorem d6_canCancel_3 : decode b6_canCancel 3 = .ok (.invokevirtual 91, 3) := by decide +kernel
theorem d6_canCancel_6 : decode b6_canCancel 6 = .ok (.aload_n 0, 1) := by decide +kernel
theorem d6_canCancel_7 : decode b6_canCancel 7 = .ok (.getfield 13, 3) := by decide +kernel
theorem d6_canCancel_10 : decode b6_canCancel 10 = .ok (.iconst 3, 1) := by decide +kernel
theorem d6_canCancel_11 : decode b6_canCancel 11 = .ok (.iaload, 1) := by decide +kernel
theorem d6_canCancel_12 : decode b6_canCancel 12 = .ok (.if_icmp .le 7, 3) := by decide +kernel
theorem d6_canCancel_15 : decode b6_canCancel 15 = .ok (.iconst 1, 1) := by decide +kernel
theorem d6_canCancel_16 : decode b6_canCancel 16 = .ok (.goto 4, 3) := by decide +kernel
theorem d6_canCancel_19 : decode b6_canCancel 19 = .ok (.iconst 0, 1) := by decide +kernel
theorem d6_canCancel_20 : decode b6_canCancel 20 = .ok (.ireturn, 1) := by decide +kernel
abbrev b6_carryOut : ByteArray := prog_8_method_59_code
def y6_carryOut : MethodName := ⟨"ChannelScheduleModel", "carryOut", "(I)Z"⟩
theorem w6_carryOut : YV y6_carryOut b6_carryOut 6 (some .boolean) 1 := ⟨LW_i 1429 (by decide +kernel) (by decide +kernel), LW_i 69 (by decide +kernel) (by decide +kernel), LW_i 120 (by decide +kernel) (by decide +kernel), LW_i 1430 (by decide +kernel) (by decide +kernel), by decide +kernel, by decide +kernel⟩
theorem d6_carryOut_0 : decode b6_carryOut 0 = .ok (.aload_n 0, 1) := by decide +kernel
theorem d6_carryOut_1 : decode b6_carryOut 1 = .ok (.getfield 54, 3) := by decide +kernel
theorem d6_carryOut_4 : decode b6_carryOut 4 = .ok (.iload_n 1, 1) := by decide +kernel
theorem d6_carryOut_5 : decode b6_carryOut 5 = .ok (.iconst 5, 1) := by decide +kernel
theorem d6_carryOut_6 : decode b6_carryOut 6 = .ok (.imul, 1) := by decide +kernel
theorem d6_carryOut_7 : decode b6_carryOut 7 = .ok (.iconst 1, 1) := by decide +kernel
theorem d6_carryOut_8 : decode b6_carryOut 8 = .ok (.iadd, 1) := by decide +kernel
theorem d6_carryOut_9 : decode b6_carryOut 9 = .ok (.iaload, 1) := by decide +kernel
theorem d6_carryOut_10 : decode b6_carryOut 10 = .ok (.istore_n 2, 1) := by decide +kernel
theorem d6_carryOut_11 : decode b6_carryOut 11 = .ok (.aload_n 0, 1) := by decide +kernel
theorem d6_carryOut_12 : decode b6_carryOut 12 = .ok (.getfield 54, 3) := by decide +kernel
theorem d6_carryOut_15 : decode b6_carryOut 15 = .ok (.iload_n 1, 1) := by decide +kernel
theorem d6_carryOut_16 : decode b6_carryOut 16 = .ok (.iconst 5, 1) := by decide +kernel
theorem d6_carryOut_17 : decode b6_carryOut 17 = .ok (.imul, 1) := by decide +kernel
theorem d6_carryOut_18 : decode b6_carryOut 18 = .ok (.iconst 2, 1) := by decide +kernel
theorem d6_carryOut_19 : decode b6_carryOut 19 = .ok (.iadd, 1) := by decide +kernel
theorem d6_carryOut_20 : decode b6_carryOut 20 = .ok (.iaload, 1) := by decide +kernel
theorem d6_carryOut_21 : decode b6_carryOut 21 = .ok (.istore_n 3, 1) := by decide +kernel
theorem d6_carryOut_22 : decode b6_carryOut 22 = .ok (.aload_n 0, 1) := by decide +kernel
theorem d6_carryOut_23 : decode b6_carryOut 23 = .ok (.getfield 54, 3) := by decide +kernel
theorem d6_carryOut_26 : decode b6_carryOut 26 = .ok (.iload_n 1, 1) := by decide +kernel
theorem d6_carryOut_27 : decode b6_carryOut 27 = .ok (.iconst 5, 1) := by decide +kernel
theorem d6_carryOut_28 : decode b6_carryOut 28 = .ok (.imul, 1) := by decide +kernel
theorem d6_carryOut_29 : decode b6_carryOut 29 = .ok (.iconst 3, 1) := by decide +kernel
theorem d6_carryOut_30 : decode b6_carryOut 30 = .ok (.iadd, 1) := by decide +kernel
theorem d6_carryOut_31 : decode b6_carryOut 31 = .ok (.iaload, 1) := by decide +kernel
theorem d6_carryOut_32 : decode b6_carryOut 32 = .ok (.istore 4, 2) := by decide +kernel
theorem d6_carryOut_34 : decode b6_carryOut 34 = .ok (.aload_n 0, 1) := by decide +kernel
theorem d6_carryOut_35 : decode b6_carryOut 35 = .ok (.getfield 54, 3) := by decide +kernel
theorem d6_carryOut_38 : decode b6_carryOut 38 = .ok (.iload_n 1, 1) := by decide +kernel
theorem d6_carryOut_39 : decode b6_carryOut 39 = .ok (.iconst 5, 1) := by decide +kernel
theorem d6_carryOut_40 : decode b6_carryOut 40 = .ok (.imul, 1) := by decide +kernel
theorem d6_carryOut_41 : decode b6_carryOut 41 = .ok (.iconst 4, 1) := by decide +kernel
theorem d6_carryOut_42 : decode b6_carryOut 42 = .ok (.iadd, 1) := by decide +kernel
theorem d6_carryOut_43 : decode b6_carryOut 43 = .ok (.iaload, 1) := by decide +kernel
theorem d6_carryOut_44 : decode b6_carryOut 44 = .ok (.istore 5, 2) := by decide +kernel
theorem d6_carryOut_46 : decode b6_carryOut 46 = .ok (.aload_n 0, 1) := by decide +kernel
theorem d6_carryOut_47 : decode b6_carryOut 47 = .ok (.getfield 54, 3) := by decide +kernel
theorem d6_carryOut_50 : decode b6_carryOut 50 = .ok (.iload_n 1, 1) := by decide +kernel
theorem d6_carryOut_51 : decode b6_carryOut 51 = .ok (.iconst 5, 1) := by decide +kernel
theorem d6_carryOut_52 : decode b6_carryOut 52 = .ok (.imul, 1) := by decide +kernel
theorem d6_carryOut_53 : decode b6_carryOut 53 = .ok (.iaload, 1) := by decide +kernel
theorem d6_carryOut_54 : decode b6_carryOut 54 = .ok (.tableswitch 212 0 5 #[38, 69, 118, 144, 179, 196], 38) := by decide +kernel
theorem d6_carryOut_92 : decode b6_carryOut 92 = .ok (.iload 4, 2) := by decide +kernel
theorem d6_carryOut_94 : decode b6_carryOut 94 = .ok (.sipush 999, 3) := by decide +kernel
theorem d6_carryOut_97 : decode b6_carryOut 97 = .ok (.if_icmp .gt 14, 3) := by decide +kernel
theorem d6_carryOut_100 : decode b6_carryOut 100 = .ok (.aload_n 0, 1) := by decide +kernel
theorem d6_carryOut_101 : decode b6_carryOut 101 = .ok (.iload_n 2, 1) := by decide +kernel
theorem d6_carryOut_102 : decode b6_carryOut 102 = .ok (.iload_n 3, 1) := by decide +kernel
theorem d6_carryOut_103 : decode b6_carryOut 103 = .ok (.iload 4, 2) := by decide +kernel
theorem d6_carryOut_105 : decode b6_carryOut 105 = .ok (.invokevirtual 226, 3) := by decide +kernel
theorem d6_carryOut_108 : decode b6_carryOut 108 = .ok (.ifCond .ne 5, 3) := by decide +kernel
theorem d6_carryOut_111 : decode b6_carryOut 111 = .ok (.iconst 0, 1) := by decide +kernel
theorem d6_carryOut_112 : decode b6_carryOut 112 = .ok (.ireturn, 1) := by decide +kernel
theorem d6_carryOut_113 : decode b6_carryOut 113 = .ok (.aload_n 0, 1) := by decide +kernel
theorem d6_carryOut_114 : decode b6_carryOut 114 = .ok (.iload_n 2, 1) := by decide +kernel
theorem d6_carryOut_115 : decode b6_carryOut 115 = .ok (.iload_n 3, 1) := by decide +kernel
theorem d6_carryOut_116 : decode b6_carryOut 116 = .ok (.iload 4, 2) := by decide +kernel
theorem d6_carryOut_118 : decode b6_carryOut 118 = .ok (.invokevirtual 120, 3) := by decide +kernel
theorem d6_carryOut_121 : decode b6_carryOut 121 = .ok (.iconst 1, 1) := by decide +kernel
theorem d6_carryOut_122 : decode b6_carryOut 122 = .ok (.ireturn, 1) := by decide +kernel
theorem d6_carryOut_123 : decode b6_carryOut 123 = .ok (.iload 4, 2) := by decide +kernel
theorem d6_carryOut_125 : decode b6_carryOut 125 = .ok (.sipush 999, 3) := by decide +kernel
theorem d6_carryOut_128 : decode b6_carryOut 128 = .ok (.if_icmp .gt 29, 3) := by decide +kernel
theorem d6_carryOut_131 : decode b6_carryOut 131 = .ok (.iload 5, 2) := by decide +kernel
theorem d6_carryOut_133 : decode b6_carryOut 133 = .ok (.iload 4, 2) := by decide +kernel
theorem d6_carryOut_135 : decode b6_carryOut 135 = .ok (.sipush 999, 3) := by decide +kernel
theorem d6_carryOut_138 : decode b6_carryOut 138 = .ok (.invokestatic 75, 3) := by decide +kernel
theorem d6_carryOut_141 : decode b6_carryOut 141 = .ok (.ifCond .eq 16, 3) := by decide +kernel
theorem d6_carryOut_144 : decode b6_carryOut 144 = .ok (.aload_n 0, 1) := by decide +kernel
theorem d6_carryOut_145 : decode b6_carryOut 145 = .ok (.iload_n 2, 1) := by decide +kernel
theorem d6_carryOut_146 : decode b6_carryOut 146 = .ok (.iload_n 3, 1) := by decide +kernel
theorem d6_carryOut_147 : decode b6_carryOut 147 = .ok (.iload 4, 2) := by decide +kernel
theorem d6_carryOut_149 : decode b6_carryOut 149 = .ok (.iload 5, 2) := by decide +kernel
theorem d6_carryOut_151 : decode b6_carryOut 151 = .ok (.invokevirtual 229, 3) := by decide +kernel
theorem d6_carryOut_154 : decode b6_carryOut 154 = .ok (.ifCond .ne 5, 3) := by decide +kernel
theorem d6_carryOut_157 : decode b6_carryOut 157 = .ok (.iconst 0, 1) := by decide +kernel
theorem d6_carryOut_158 : decode b6_carryOut 158 = .ok (.ireturn, 1) := by decide +kernel
theorem d6_carryOut_159 : decode b6_carryOut 159 = .ok (.aload_n 0, 1) := by decide +kernel
theorem d6_carryOut_160 : decode b6_carryOut 160 = .ok (.iload_n 2, 1) := by decide +kernel
theorem d6_carryOut_161 : decode b6_carryOut 161 = .ok (.iload_n 3, 1) := by decide +kernel
theorem d6_carryOut_162 : decode b6_carryOut 162 = .ok (.iload 4, 2) := by decide +kernel
theorem d6_carryOut_164 : decode b6_carryOut 164 = .ok (.iload 5, 2) := by decide +kernel
theorem d6_carryOut_166 : decode b6_carryOut 166 = .ok (.invokevirtual 232, 3) := by decide +kernel
theorem d6_carryOut_169 : decode b6_carryOut 169 = .ok (.pop, 1) := by decide +kernel
theorem d6_carryOut_170 : decode b6_carryOut 170 = .ok (.iconst 1, 1) := by decide +kernel
theorem d6_carryOut_171 : decode b6_carryOut 171 = .ok (.ireturn, 1) := by decide +kernel
theorem d6_carryOut_172 : decode b6_carryOut 172 = .ok (.aload_n 0, 1) := by decide +kernel
theorem d6_carryOut_173 : decode b6_carryOut 173 = .ok (.iload_n 2, 1) := by decide +kernel
theorem d6_carryOut_174 : decode b6_carryOut 174 = .ok (.invokevirtual 235, 3) := by decide +kernel
theorem d6_carryOut_177 : decode b6_carryOut 177 = .ok (.ifCond .eq 11, 3) := by decide +kernel
theorem d6_carryOut_180 : decode b6_carryOut 180 = .ok (.aload_n 0, 1) := by decide +kernel
theorem d6_carryOut_181 : decode b6_carryOut 181 = .ok (.iload_n 2, 1) := by decide +kernel
theorem d6_carryOut_182 : decode b6_carryOut 182 = .ok (.invokevirtual 137, 3) := by decide +kernel
theorem d6_carryOut_185 : decode b6_carryOut 185 = .ok (.ifCond .ne 5, 3) := by decide +kernel
theorem d6_carryOut_188 : decode b6_carryOut 188 = .ok (.iconst 0, 1) := by decide +kernel
theorem d6_carryOut_189 : decode b6_carryOut 189 = .ok (.ireturn, 1) := by decide +kernel
theorem d6_carryOut_190 : decode b6_carryOut 190 = .ok (.aload_n 0, 1) := by decide +kernel
theorem d6_carryOut_191 : decode b6_carryOut 191 = .ok (.iload_n 2, 1) := by decide +kernel
theorem d6_carryOut_192 : decode b6_carryOut 192 = .ok (.invokevirtual 238, 3) := by decide +kernel
theorem d6_carryOut_195 : decode b6_carryOut 195 = .ok (.pop, 1) := by decide +kernel
theorem d6_carryOut_196 : decode b6_carryOut 196 = .ok (.iconst 1, 1) := by decide +kernel
theorem d6_carryOut_197 : decode b6_carryOut 197 = .ok (.ireturn, 1) := by decide +kernel
theorem d6_carryOut_198 : decode b6_carryOut 198 = .ok (.aload_n 0, 1) := by decide +kernel
theorem d6_carryOut_199 : decode b6_carryOut 199 = .ok (.iload_n 2, 1) := by decide +kernel
theorem d6_carryOut_200 : decode b6_carryOut 200 = .ok (.invokevirtual 235, 3) := by decide +kernel
theorem d6_carryOut_203 : decode b6_carryOut 203 = .ok (.ifCond .eq 19, 3) := by decide +kernel
theorem d6_carryOut_206 : decode b6_carryOut 206 = .ok (.iload_n 3, 1) := by decide +kernel
theorem d6_carryOut_207 : decode b6_carryOut 207 = .ok (.sipush 999, 3) := by decide +kernel
theorem d6_carryOut_210 : decode b6_carryOut 210 = .ok (.if_icmp .gt 12, 3) := by decide +kernel
theorem d6_carryOut_213 : decode b6_carryOut 213 = .ok (.aload_n 0, 1) := by decide +kernel
theorem d6_carryOut_214 : decode b6_carryOut 214 = .ok (.iload_n 2, 1) := by decide +kernel
theorem d6_carryOut_215 : decode b6_carryOut 215 = .ok (.iload_n 3, 1) := by decide +kernel
theorem d6_carryOut_216 : decode b6_carryOut 216 = .ok (.invokevirtual 241, 3) := by decide +kernel
theorem d6_carryOut_219 : decode b6_carryOut 219 = .ok (.ifCond .eq 5, 3) := by decide +kernel
theorem d6_carryOut_222 : decode b6_carryOut 222 = .ok (.iconst 0, 1) := by decide +kernel
theorem d6_carryOut_223 : decode b6_carryOut 223 = .ok (.ireturn, 1) := by decide +kernel
theorem d6_carryOut_224 : decode b6_carryOut 224 = .ok (.aload_n 0, 1) := by decide +kernel
theorem d6_carryOut_225 : decode b6_carryOut 225 = .ok (.iload_n 2, 1) := by decide +kernel
theorem d6_carryOut_226 : decode b6_carryOut 226 = .ok (.iload_n 3, 1) := by decide +kernel
theorem d6_carryOut_227 : decode b6_carryOut 227 = .ok (.invokevirtual 244, 3) := by decide +kernel
theorem d6_carryOut_230 : decode b6_carryOut 230 = .ok (.pop, 1) := by decide +kernel
theorem d6_carryOut_231 : decode b6_carryOut 231 = .ok (.iconst 1, 1) := by decide +kernel
theorem d6_carryOut_232 : decode b6_carryOut 232 = .ok (.ireturn, 1) := by decide +kernel
theorem d6_carryOut_233 : decode b6_carryOut 233 = .ok (.aload_n 0, 1) := by decide +kernel
theorem d6_carryOut_234 : decode b6_carryOut 234 = .ok (.iload_n 2, 1) := by decide +kernel
theorem d6_carryOut_235 : decode b6_carryOut 235 = .ok (.invokevirtual 247, 3) := by decide +kernel
theorem d6_carryOut_238 : decode b6_carryOut 238 = .ok (.ifCond .ne 5, 3) := by decide +kernel
theorem d6_carryOut_241 : decode b6_carryOut 241 = .ok (.iconst 0, 1) := by decide +kernel
theorem d6_carryOut_242 : decode b6_carryOut 242 = .ok (.ireturn, 1) := by decide +kernel
theorem d6_carryOut_243 : decode b6_carryOut 243 = .ok (.aload_n 0, 1) := by decide +kernel
theorem d6_carryOut_244 : decode b6_carryOut 244 = .ok (.iload_n 2, 1) := by decide +kernel
theorem d6_carryOut_245 : decode b6_carryOut 245 = .ok (.invokevirtual 124, 3) := by decide +kernel
theorem d6_carryOut_248 : decode b6_carryOut 248 = .ok (.iconst 1, 1) := by decide +kernel
theorem d6_carryOut_249 : decode b6_carryOut 249 = .ok (.ireturn, 1) := by decide +kernel
theorem d6_carryOut_250 : decode b6_carryOut 250 = .ok (.iload_n 2, 1) := by decide +kernel
theorem d6_carryOut_251 : decode b6_carryOut 251 = .ok (.bipush 9, 2) := by decide +kernel
theorem d6_carryOut_253 : decode b6_carryOut 253 = .ok (.if_icmp .le 5, 3) := by decide +kernel
theorem d6_carryOut_256 : decode b6_carryOut 256 = .ok (.iconst 0, 1) := by decide +kernel
theorem d6_carryOut_257 : decode b6_carryOut 257 = .ok (.ireturn, 1) := by decide +kernel
theorem d6_carryOut_258 : decode b6_carryOut 258 = .ok (.aload_n 0, 1) := by decide +kernel
theorem d6_carryOut_259 : decode b6_carryOut 259 = .ok (.iload_n 2, 1) := by decide +kernel
theorem d6_carryOut_260 : decode b6_carryOut 260 = .ok (.invokevirtual 250, 3) := by decide +kernel
theorem d6_carryOut_263 : decode b6_carryOut 263 = .ok (.pop, 1) := by decide +kernel
theorem d6_carryOut_264 : decode b6_carryOut 264 = .ok (.iconst 1, 1) := by decide +kernel
theorem d6_carryOut_265 : decode b6_carryOut 265 = .ok (.ireturn, 1) := by decide +kernel
theorem d6_carryOut_266 : decode b6_carryOut 266 = .ok (.iload_n 2, 1) := by decide +kernel
theorem d6_carryOut_267 : decode b6_carryOut 267 = .ok (.iconst 1, 1) := by decide +kernel
theorem d6_carryOut_268 : decode b6_carryOut 268 = .ok (.sipush 500, 3) := by decide +kernel
theorem d6_carryOut_271 : decode b6_carryOut 271 = .ok (.invokestatic 75, 3) := by decide +kernel
theorem d6_carryOut_274 : decode b6_carryOut 274 = .ok (.ifCond .eq 17, 3) := by decide +kernel
theorem d6_carryOut_277 : decode b6_carryOut 277 = .ok (.aload_n 0, 1) := by decide +kernel
theorem d6_carryOut_278 : decode b6_carryOut 278 = .ok (.getfield 13, 3) := by decide +kernel
theorem d6_carryOut_281 : decode b6_carryOut 281 = .ok (.iconst 3, 1) := by decide +kernel
theorem d6_carryOut_282 : decode b6_carryOut 282 = .ok (.iaload, 1) := by decide +kernel
theorem d6_carryOut_283 : decode b6_carryOut 283 = .ok (.iload_n 2, 1) := by decide +kernel
theorem d6_carryOut_284 : decode b6_carryOut 284 = .ok (.iadd, 1) := by decide +kernel
theorem d6_carryOut_285 : decode b6_carryOut 285 = .ok (.sipush 1200, 3) := by decide +kernel
theorem d6_carryOut_288 : decode b6_carryOut 288 = .ok (.if_icmp .le 5, 3) := by decide +kernel
theorem d6_carryOut_291 : decode b6_carryOut 291 = .ok (.iconst 0, 1) := by decide +kernel
theorem d6_carryOut_292 : decode b6_carryOut 292 = .ok (.ireturn, 1) := by decide +kernel
theorem d6_carryOut_293 : decode b6_carryOut 293 = .ok (.aload_n 0, 1) := by decide +kernel
theorem d6_carryOut_294 : decode b6_carryOut 294 = .ok (.iload_n 2, 1) := by decide +kernel
theorem d6_carryOut_295 : decode b6_carryOut 295 = .ok (.invokevirtual 253, 3) := by decide +kernel
theorem d6_carryOut_298 : decode b6_carryOut 298 = .ok (.pop, 1) := by decide +kernel
theorem d6_carryOut_299 : decode b6_carryOut 299 = .ok (.iconst 1, 1) := by decide +kernel
theorem d6_carryOut_300 : decode b6_carryOut 300 = .ok (.ireturn, 1) := by decide +kernel
abbrev b6_runScript : ByteArray := prog_8_method_60_code
def y6_runScript : MethodName := ⟨"ChannelScheduleModel", "runScript", "()I"⟩
theorem w6_runScript : YV y6_runScript b6_runScript 3 (some .int) 0 := ⟨LW_i 1384 (by decide +kernel) (by decide +kernel), LW_i 1385 (by decide +kernel) (by decide +kernel), LW_i 120 (by decide +kernel) (by decide +kernel), LW_i 1386 (by decide +kernel) (by decide +kernel), by decide +kernel, by decide +kernel⟩
theorem d6_runScript_0 : decode b6_runScript 0 = .ok (.aload_n 0, 1) := by decide +kernel
theorem d6_runScript_1 : decode b6_runScript 1 = .ok (.invokevirtual 68, 3) := by decide +kernel
theorem d6_runScript_4 : decode b6_runScript 4 = .ok (.aload_n 0, 1) := by decide +kernel
theorem d6_runScript_5 : decode b6_runScript 5 = .ok (.invokevirtual 256, 3) := by decide +kernel
theorem d6_runScript_8 : decode b6_runScript 8 = .ok (.istore_n 1, 1) := by decide +kernel
theorem d6_runScript_9 : decode b6_runScript 9 = .ok (.aload_n 0, 1) := by decide +kernel
theorem d6_runScript_10 : decode b6_runScript 10 = .ok (.iconst 0, 1) := by decide +kernel
theorem d6_runScript_11 : decode b6_runScript 11 = .ok (.putfield 27, 3) := by decide +kernel
theorem d6_runScript_14 : decode b6_runScript 14 = .ok (.aload_n 0, 1) := by decide +kernel
theorem d6_runScript_15 : decode b6_runScript 15 = .ok (.iload_n 1, 1) := by decide +kernel
theorem d6_runScript_16 : decode b6_runScript 16 = .ok (.iconst (-1), 1) := by decide +kernel
theorem d6_runScript_17 : decode b6_runScript 17 = .ok (.if_icmp .ne 7, 3) := by decide +kernel
theorem d6_runScript_20 : decode b6_runScript 20 = .ok (.iconst 1, 1) := by decide +kernel
theorem d6_runScript_21 : decode b6_runScript 21 = .ok (.goto 4, 3) := by decide +kernel
theorem d6_runScript_24 : decode b6_runScript 24 = .ok (.iconst 0, 1) := by decide +kernel
theorem d6_runScript_25 : decode b6_runScript 25 = .ok (.iconst 0, 1) := by decide +kernel
theorem d6_runScript_26 : decode b6_runScript 26 = .ok (.iconst 0, 1) := by decide +kernel
theorem d6_runScript_27 : decode b6_runScript 27 = .ok (.invokevirtual 148, 3) := by decide +kernel
theorem d6_runScript_30 : decode b6_runScript 30 = .ok (.ifCond .eq 5, 3) := by decide +kernel
theorem d6_runScript_33 : decode b6_runScript 33 = .ok (.iconst 0, 1) := by decide +kernel
theorem d6_runScript_34 : decode b6_runScript 34 = .ok (.ireturn, 1) := by decide +kernel
theorem d6_runScript_35 : decode b6_runScript 35 = .ok (.aload_n 0, 1) := by decide +kernel
theorem d6_runScript_36 : decode b6_runScript 36 = .ok (.iconst 0, 1) := by decide +kernel
theorem d6_runScript_37 : decode b6_runScript 37 = .ok (.invokevirtual 259, 3) := by decide +kernel
theorem d6_runScript_40 : decode b6_runScript 40 = .ok (.iconst 0, 1) := by decide +kernel
theorem d6_runScript_41 : decode b6_runScript 41 = .ok (.istore_n 2, 1) := by decide +kernel
theorem d6_runScript_42 : decode b6_runScript 42 = .ok (.iload_n 2, 1) := by decide +kernel
theorem d6_runScript_43 : decode b6_runScript 43 = .ok (.iload_n 1, 1) := by decide +kernel
theorem d6_runScript_44 : decode b6_runScript 44 = .ok (.if_icmp .ge 17, 3) := by decide +kernel
theorem d6_runScript_47 : decode b6_runScript 47 = .ok (.aload_n 0, 1) := by decide +kernel
theorem d6_runScript_48 : decode b6_runScript 48 = .ok (.iload_n 2, 1) := by decide +kernel
theorem d6_runScript_49 : decode b6_runScript 49 = .ok (.invokevirtual 262, 3) := by decide +kernel
theorem d6_runScript_52 : decode b6_runScript 52 = .ok (.ifCond .eq 9, 3) := by decide +kernel
theorem d6_runScript_55 : decode b6_runScript 55 = .ok (.iinc 2 1, 3) := by decide +kernel
theorem d6_runScript_58 : decode b6_runScript 58 = .ok (.goto (-16), 3) := by decide +kernel
theorem d6_runScript_61 : decode b6_runScript 61 = .ok (.iload_n 2, 1) := by decide +kernel
theorem d6_runScript_62 : decode b6_runScript 62 = .ok (.ireturn, 1) := by decide +kernel
abbrev b6_errorCode : ByteArray := prog_8_method_61_code
def y6_errorCode : MethodName := ⟨"ChannelScheduleModel", "errorCode", "()I"⟩
theorem w6_errorCode : YV y6_errorCode b6_errorCode 1 (some .int) 0 := ⟨LW_i 1540 (by decide +kernel) (by decide +kernel), LW_i 1541 (by decide +kernel) (by decide +kernel), LW_i 120 (by decide +kernel) (by decide +kernel), LW_i 1542 (by decide +kernel) (by decide +kernel), by decide +kernel, by decide +kernel⟩
theorem d6_errorCode_0 : decode b6_errorCode 0 = .ok (.aload_n 0, 1) := by decide +kernel
theorem d6_errorCode_1 : decode b6_errorCode 1 = .ok (.iconst 0, 1) := by decide +kernel
theorem d6_errorCode_2 : decode b6_errorCode 2 = .ok (.putfield 1, 3) := by decide +kernel
theorem d6_errorCode_5 : decode b6_errorCode 5 = .ok (.aload_n 0, 1) := by decide +kernel
theorem d6_errorCode_6 : decode b6_errorCode 6 = .ok (.getfield 30, 3) := by decide +kernel
theorem d6_errorCode_9 : decode b6_errorCode 9 = .ok (.ireturn, 1) := by decide +kernel
abbrev b6_errorPosition : ByteArray := prog_8_method_62_code
def y6_errorPosition : MethodName := ⟨"ChannelScheduleModel", "errorPosition", "()I"⟩
theorem w6_errorPosition : YV y6_errorPosition b6_errorPosition 1 (some .int) 0 := ⟨LW_i 1544 (by decide +kernel) (by decide +kernel), LW_i 1545 (by decide +kernel) (by decide +kernel), LW_i 120 (by decide +kernel) (by decide +kernel), LW_i 1546 (by decide +kernel) (by decide +kernel), by decide +kernel, by decide +kernel⟩
theorem d6_errorPosition_0 : decode b6_errorPosition 0 = .ok (.aload_n 0, 1) := by decide +kernel
theorem d6_errorPosition_1 : decode b6_errorPosition 1 = .ok (.iconst 0, 1) := by decide +kernel
theorem d6_errorPosition_2 : decode b6_errorPosition 2 = .ok (.putfield 1, 3) := by decide +kernel
theorem d6_errorPosition_5 : decode b6_errorPosition 5 = .ok (.aload_n 0, 1) := by decide +kernel
theorem d6_errorPosition_6 : decode b6_errorPosition 6 = .ok (.getfield 33, 3) := by decide +kernel
theorem d6_errorPosition_9 : decode b6_errorPosition 9 = .ok (.ireturn, 1) := by decide +kernel
abbrev b6_plain : ByteArray := prog_8_method_63_code
def y6_plain : MethodName := ⟨"ChannelScheduleModel", "plain", "(I)I"⟩
theorem w6_plain : YV y6_plain b6_plain 2 (some .int) 1 := ⟨LW_i 1553 (by decide +kernel) (by decide +kernel), LW_i 97 (by decide +kernel) (by decide +kernel), LW_i 120 (by decide +kernel) (by decide +kernel), LW_i 1554 (by decide +kernel) (by decide +kernel), by decide +kernel, by decide +kernel⟩
theorem d6_plain_0 : decode b6_plain 0 = .ok (.aload_n 0, 1) := by decide +kernel
theorem d6_plain_1 : decode b6_plain 1 = .ok (.iconst 0, 1) := by decide +kernel
theorem d6_plain_2 : decode b6_plain 2 = .ok (.putfield 1, 3) := by decide +kernel
theorem d6_plain_5 : decode b6_plain 5 = .ok (.iload_n 1, 1) := by decide +kernel
theorem d6_plain_6 : decode b6_plain 6 = .ok (.ireturn, 1) := by decide +kernel
abbrev b6_shipCount : ByteArray := prog_8_method_64_code
def y6_shipCount : MethodName := ⟨"ChannelScheduleModel", "shipCount", "()I"⟩
theorem w6_shipCount : YV y6_shipCount b6_shipCount 1 (some .int) 0 := ⟨LW_i 1548 (by decide +kernel) (by decide +kernel), LW_i 1549 (by decide +kernel) (by decide +kernel), LW_i 120 (by decide +kernel) (by decide +kernel), LW_i 1550 (by decide +kernel) (by decide +kernel), by decide +kernel, by decide +kernel⟩
theorem d6_shipCount_0 : decode b6_shipCount 0 = .ok (.aload_n 0, 1) := by decide +kernel
theorem d6_shipCount_1 : decode b6_shipCount 1 = .ok (.aload_n 0, 1) := by decide +kernel
theorem d6_shipCount_2 : decode b6_shipCount 2 = .ok (.getfield 13, 3) := by decide +kernel
theorem d6_shipCount_5 : decode b6_shipCount 5 = .ok (.iconst 4, 1) := by decide +kernel
theorem d6_shipCount_6 : decode b6_shipCount 6 = .ok (.iaload, 1) := by decide +kernel
theorem d6_shipCount_7 : decode b6_shipCount 7 = .ok (.invokevirtual 265, 3) := by decide +kernel
theorem d6_shipCount_10 : decode b6_shipCount 10 = .ok (.ireturn, 1) := by decide +kernel
abbrev b6_headway : ByteArray := prog_8_method_65_code
def y6_headway : MethodName := ⟨"ChannelScheduleModel", "headway", "()I"⟩
theorem w6_headway : YV y6_headway b6_headway 1 (some .int) 0 := ⟨LW_i 1556 (by decide +kernel) (by decide +kernel), LW_i 1557 (by decide +kernel) (by decide +kernel), LW_i 120 (by decide +kernel) (by decide +kernel), LW_i 1558 (by decide +kernel) (by decide +kernel), by decide +kernel, by decide +kernel⟩
theorem d6_headway_0 : decode b6_headway 0 = .ok (.aload_n 0, 1) := by decide +kernel
theorem d6_headway_1 : decode b6_headway 1 = .ok (.aload_n 0, 1) := by decide +kernel
theorem d6_headway_2 : decode b6_headway 2 = .ok (.getfield 13, 3) := by decide +kernel
theorem d6_headway_5 : decode b6_headway 5 = .ok (.iconst 0, 1) := by decide +kernel
theorem d6_headway_6 : decode b6_headway 6 = .ok (.iaload, 1) := by decide +kernel
theorem d6_headway_7 : decode b6_headway 7 = .ok (.invokevirtual 265, 3) := by decide +kernel
theorem d6_headway_10 : decode b6_headway 10 = .ok (.ireturn, 1) := by decide +kernel
abbrev b6_clearance : ByteArray := prog_8_method_66_code
def y6_clearance : MethodName := ⟨"ChannelScheduleModel", "clearance", "()I"⟩
theorem w6_clearance : YV y6_clearance b6_clearance 1 (some .int) 0 := ⟨LW_i 1560 (by decide +kernel) (by decide +kernel), LW_i 1561 (by decide +kernel) (by decide +kernel), LW_i 120 (by decide +kernel) (by decide +kernel), LW_i 1562 (by decide +kernel) (by decide +kernel), by decide +kernel, by decide +kernel⟩
theorem d6_clearance_0 : decode b6_clearance 0 = .ok (.aload_n 0, 1) := by decide +kernel
theorem d6_clearance_1 : decode b6_clearance 1 = .ok (.aload_n 0, 1) := by decide +kernel
theorem d6_clearance_2 : decode b6_clearance 2 = .ok (.getfield 13, 3) := by decide +kernel
theorem d6_clearance_5 : decode b6_clearance 5 = .ok (.iconst 1, 1) := by decide +kernel
theorem d6_clearance_6 : decode b6_clearance 6 = .ok (.iaload, 1) := by decide +kernel
theorem d6_clearance_7 : decode b6_clearance 7 = .ok (.invokevirtual 265, 3) := by decide +kernel
theorem d6_clearance_10 : decode b6_clearance 10 = .ok (.ireturn, 1) := by decide +kernel
abbrev b6_thickness : ByteArray := prog_8_method_67_code
def y6_thickness : MethodName := ⟨"ChannelScheduleModel", "thickness", "()I"⟩
theorem w6_thickness : YV y6_thickness b6_thickness 1 (some .int) 0 := ⟨LW_i 1564 (by decide +kernel) (by decide +kernel), LW_i 1565 (by decide +kernel) (by decide +kernel), LW_i 120 (by decide +kernel) (by decide +kernel), LW_i 1566 (by decide +kernel) (by decide +kernel), by decide +kernel, by decide +kernel⟩
theorem d6_thickness_0 : decode b6_thickness 0 = .ok (.aload_n 0, 1) := by decide +kernel
theorem d6_thickness_1 : decode b6_thickness 1 = .ok (.aload_n 0, 1) := by decide +kernel
theorem d6_thickness_2 : decode b6_thickness 2 = .ok (.getfield 13, 3) := by decide +kernel
theorem d6_thickness_5 : decode b6_thickness 5 = .ok (.iconst 2, 1) := by decide +kernel
theorem d6_thickness_6 : decode b6_thickness 6 = .ok (.iaload, 1) := by decide +kernel
theorem d6_thickness_7 : decode b6_thickness 7 = .ok (.invokevirtual 265, 3) := by decide +kernel
theorem d6_thickness_10 : decode b6_thickness 10 = .ok (.ireturn, 1) := by decide +kernel
abbrev b6_minute : ByteArray := prog_8_method_68_code
def y6_minute : MethodName := ⟨"ChannelScheduleModel", "minute", "()I"⟩
theorem w6_minute : YV y6_minute b6_minute 1 (some .int) 0 := ⟨LW_i 1568 (by decide +kernel) (by decide +kernel), LW_i 1569 (by decide +kernel) (by decide +kernel), LW_i 120 (by decide +kernel) (by decide +kernel), LW_i 1570 (by decide +kernel) (by decide +kernel), by decide +kernel, by decide +kernel⟩
theorem d6_minute_0 : decode b6_minute 0 = .ok (.aload_n 0, 1) := by decide +kernel
theorem d6_minute_1 : decode b6_minute 1 = .ok (.aload_n 0, 1) := by decide +kernel
theorem d6_minute_2 : decode b6_minute 2 = .ok (.getfield 13, 3) := by decide +kernel
theorem d6_minute_5 : decode b6_minute 5 = .ok (.iconst 3, 1) := by decide +kernel
theorem d6_minute_6 : decode b6_minute 6 = .ok (.iaload, 1) := by decide +kernel
theorem d6_minute_7 : decode b6_minute 7 = .ok (.invokevirtual 265, 3) := by decide +kernel
theorem d6_minute_10 : decode b6_minute 10 = .ok (.ireturn, 1) := by decide +kernel
abbrev b6_transitTime : ByteArray := prog_8_method_69_code
def y6_transitTime : MethodName := ⟨"ChannelScheduleModel", "transitTime", "(I)I"⟩
theorem w6_transitTime : YV y6_transitTime b6_transitTime 2 (some .int) 1 := ⟨LW_i 1572 (by decide +kernel) (by decide +kernel), LW_i 1573 (by decide +kernel) (by decide +kernel), LW_i 120 (by decide +kernel) (by decide +kernel), LW_i 1574 (by decide +kernel) (by decide +kernel), by decide +kernel, by decide +kernel⟩
theorem d6_transitTime_0 : decode b6_transitTime 0 = .ok (.aload_n 0, 1) := by decide +kernel
theorem d6_transitTime_1 : decode b6_transitTime 1 = .ok (.aload_n 0, 1) := by decide +kernel
theorem d6_transitTime_2 : decode b6_transitTime 2 = .ok (.iload_n 1, 1) := by decide +kernel
theorem d6_transitTime_3 : decode b6_transitTime 3 = .ok (.invokevirtual 268, 3) := by decide +kernel
theorem d6_transitTime_6 : decode b6_transitTime 6 = .ok (.ifCond .ne 7, 3) := by decide +kernel
theorem d6_transitTime_9 : decode b6_transitTime 9 = .ok (.iconst 1, 1) := by decide +kernel
theorem d6_transitTime_10 : decode b6_transitTime 10 = .ok (.goto 4, 3) := by decide +kernel
theorem d6_transitTime_13 : decode b6_transitTime 13 = .ok (.iconst 0, 1) := by decide +kernel
theorem d6_transitTime_14 : decode b6_transitTime 14 = .ok (.iconst 0, 1) := by decide +kernel
theorem d6_transitTime_15 : decode b6_transitTime 15 = .ok (.iconst 0, 1) := by decide +kernel
theorem d6_transitTime_16 : decode b6_transitTime 16 = .ok (.invokevirtual 148, 3) := by decide +kernel
theorem d6_transitTime_19 : decode b6_transitTime 19 = .ok (.ifCond .eq 5, 3) := by decide +kernel
theorem d6_transitTime_22 : decode b6_transitTime 22 = .ok (.iconst 0, 1) := by decide +kernel
theorem d6_transitTime_23 : decode b6_transitTime 23 = .ok (.ireturn, 1) := by decide +kernel
theorem d6_transitTime_24 : decode b6_transitTime 24 = .ok (.aload_n 0, 1) := by decide +kernel
theorem d6_transitTime_25 : decode b6_transitTime 25 = .ok (.iload_n 1, 1) := by decide +kernel
theorem d6_transitTime_26 : decode b6_transitTime 26 = .ok (.invokevirtual 94, 3) := by decide +kernel
theorem d6_transitTime_29 : decode b6_transitTime 29 = .ok (.ireturn, 1) := by decide +kernel
abbrev b6_iceClass : ByteArray := prog_8_method_70_code
def y6_iceClass : MethodName := ⟨"ChannelScheduleModel", "iceClass", "(I)I"⟩
theorem w6_iceClass : YV y6_iceClass b6_iceClass 2 (some .int) 1 := ⟨LW_i 1580 (by decide +kernel) (by decide +kernel), LW_i 1581 (by decide +kernel) (by decide +kernel), LW_i 120 (by decide +kernel) (by decide +kernel), LW_i 1582 (by decide +kernel) (by decide +kernel), by decide +kernel, by decide +kernel⟩
theorem d6_iceClass_0 : decode b6_iceClass 0 = .ok (.aload_n 0, 1) := by decide +kernel
theorem d6_iceClass_1 : decode b6_iceClass 1 = .ok (.aload_n 0, 1) := by decide +kernel
theorem d6_iceClass_2 : decode b6_iceClass 2 = .ok (.iload_n 1, 1) := by decide +kernel
theorem d6_iceClass_3 : decode b6_iceClass 3 = .ok (.invokevirtual 268, 3) := by decide +kernel
theorem d6_iceClass_6 : decode b6_iceClass 6 = .ok (.ifCond .ne 7, 3) := by decide +kernel
theorem d6_iceClass_9 : decode b6_iceClass 9 = .ok (.iconst 1, 1) := by decide +kernel
theorem d6_iceClass_10 : decode b6_iceClass 10 = .ok (.goto 4, 3) := by decide +kernel
theorem d6_iceClass_13 : decode b6_iceClass 13 = .ok (.iconst 0, 1) := by decide +kernel
theorem d6_iceClass_14 : decode b6_iceClass 14 = .ok (.iconst 0, 1) := by decide +kernel
theorem d6_iceClass_15 : decode b6_iceClass 15 = .ok (.iconst 0, 1) := by decide +kernel
theorem d6_iceClass_16 : decode b6_iceClass 16 = .ok (.invokevirtual 148, 3) := by decide +kernel
theorem d6_iceClass_19 : decode b6_iceClass 19 = .ok (.ifCond .eq 5, 3) := by decide +kernel
theorem d6_iceClass_22 : decode b6_iceClass 22 = .ok (.iconst 0, 1) := by decide +kernel
theorem d6_iceClass_23 : decode b6_iceClass 23 = .ok (.ireturn, 1) := by decide +kernel
theorem d6_iceClass_24 : decode b6_iceClass 24 = .ok (.aload_n 0, 1) := by decide +kernel
theorem d6_iceClass_25 : decode b6_iceClass 25 = .ok (.iload_n 1, 1) := by decide +kernel
theorem d6_iceClass_26 : decode b6_iceClass 26 = .ok (.bipush 8, 2) := by decide +kernel
theorem d6_iceClass_28 : decode b6_iceClass 28 = .ok (.invokevirtual 83, 3) := by decide +kernel
theorem d6_iceClass_31 : decode b6_iceClass 31 = .ok (.ireturn, 1) := by decide +kernel
abbrev b6_weight : ByteArray := prog_8_method_71_code
def y6_weight : MethodName := ⟨"ChannelScheduleModel", "weight", "(I)I"⟩
theorem w6_weight : YV y6_weight b6_weight 2 (some .int) 1 := ⟨LW_i 1584 (by decide +kernel) (by decide +kernel), LW_i 1585 (by decide +kernel) (by decide +kernel), LW_i 120 (by decide +kernel) (by decide +kernel), LW_i 1586 (by decide +kernel) (by decide +kernel), by decide +kernel, by decide +kernel⟩
theorem d6_weight_0 : decode b6_weight 0 = .ok (.aload_n 0, 1) := by decide +kernel
theorem d6_weight_1 : decode b6_weight 1 = .ok (.aload_n 0, 1) := by decide +kernel
theorem d6_weight_2 : decode b6_weight 2 = .ok (.iload_n 1, 1) := by decide +kernel
theorem d6_weight_3 : decode b6_weight 3 = .ok (.invokevirtual 268, 3) := by decide +kernel
theorem d6_weight_6 : decode b6_weight 6 = .ok (.ifCond .ne 7, 3) := by decide +kernel
theorem d6_weight_9 : decode b6_weight 9 = .ok (.iconst 1, 1) := by decide +kernel
theorem d6_weight_10 : decode b6_weight 10 = .ok (.goto 4, 3) := by decide +kernel
theorem d6_weight_13 : decode b6_weight 13 = .ok (.iconst 0, 1) := by decide +kernel
theorem d6_weight_14 : decode b6_weight 14 = .ok (.iconst 0, 1) := by decide +kernel
theorem d6_weight_15 : decode b6_weight 15 = .ok (.iconst 0, 1) := by decide +kernel
theorem d6_weight_16 : decode b6_weight 16 = .ok (.invokevirtual 148, 3) := by decide +kernel
theorem d6_weight_19 : decode b6_weight 19 = .ok (.ifCond .eq 5, 3) := by decide +kernel
theorem d6_weight_22 : decode b6_weight 22 = .ok (.iconst 0, 1) := by decide +kernel
theorem d6_weight_23 : decode b6_weight 23 = .ok (.ireturn, 1) := by decide +kernel
theorem d6_weight_24 : decode b6_weight 24 = .ok (.aload_n 0, 1) := by decide +kernel
theorem d6_weight_25 : decode b6_weight 25 = .ok (.iload_n 1, 1) := by decide +kernel
theorem d6_weight_26 : decode b6_weight 26 = .ok (.bipush 9, 2) := by decide +kernel
theorem d6_weight_28 : decode b6_weight 28 = .ok (.invokevirtual 83, 3) := by decide +kernel
theorem d6_weight_31 : decode b6_weight 31 = .ok (.ireturn, 1) := by decide +kernel
abbrev b6_shipNameByte : ByteArray := prog_8_method_72_code
def y6_shipNameByte : MethodName := ⟨"ChannelScheduleModel", "shipNameByte", "(II)I"⟩
theorem w6_shipNameByte : YV y6_shipNameByte b6_shipNameByte 3 (some .int) 2 := ⟨LW_i 1588 (by decide +kernel) (by decide +kernel), LW_i 1589 (by decide +kernel) (by decide +kernel), LW_i 120 (by decide +kernel) (by decide +kernel), LW_i 1590 (by decide +kernel) (by decide +kernel), by decide +kernel, by decide +kernel⟩
theorem d6_shipNameByte_0 : decode b6_shipNameByte 0 = .ok (.aload_n 0, 1) := by decide +kernel
theorem d6_shipNameByte_1 : decode b6_shipNameByte 1 = .ok (.aload_n 0, 1) := by decide +kernel
theorem d6_shipNameByte_2 : decode b6_shipNameByte 2 = .ok (.iload_n 1, 1) := by decide +kernel
theorem d6_shipNameByte_3 : decode b6_shipNameByte 3 = .ok (.invokevirtual 268, 3) := by decide +kernel
theorem d6_shipNameByte_6 : decode b6_shipNameByte 6 = .ok (.ifCond .eq 31, 3) := by decide +kernel
theorem d6_shipNameByte_9 : decode b6_shipNameByte 9 = .ok (.iload_n 2, 1) := by decide +kernel
theorem d6_shipNameByte_10 : decode b6_shipNameByte 10 = .ok (.iconst 0, 1) := by decide +kernel
theorem d6_shipNameByte_11 : decode b6_shipNameByte 11 = .ok (.aload_n 0, 1) := by decide +kernel
theorem d6_shipNameByte_12 : decode b6_shipNameByte 12 = .ok (.aload_n 0, 1) := by decide +kernel
theorem d6_shipNameByte_13 : decode b6_shipNameByte 13 = .ok (.iload_n 1, 1) := by decide +kernel
theorem d6_shipNameByte_14 : decode b6_shipNameByte 14 = .ok (.invokevirtual 268, 3) := by decide +kernel
theorem d6_shipNameByte_17 : decode b6_shipNameByte 17 = .ok (.ifCond .eq 7, 3) := by decide +kernel
theorem d6_shipNameByte_20 : decode b6_shipNameByte 20 = .ok (.iload_n 1, 1) := by decide +kernel
theorem d6_shipNameByte_21 : decode b6_shipNameByte 21 = .ok (.goto 4, 3) := by decide +kernel
theorem d6_shipNameByte_24 : decode b6_shipNameByte 24 = .ok (.iconst 0, 1) := by decide +kernel
theorem d6_shipNameByte_25 : decode b6_shipNameByte 25 = .ok (.iconst 0, 1) := by decide +kernel
theorem d6_shipNameByte_26 : decode b6_shipNameByte 26 = .ok (.invokevirtual 83, 3) := by decide +kernel
theorem d6_shipNameByte_29 : decode b6_shipNameByte 29 = .ok (.iconst 1, 1) := by decide +kernel
theorem d6_shipNameByte_30 : decode b6_shipNameByte 30 = .ok (.isub, 1) := by decide +kernel
theorem d6_shipNameByte_31 : decode b6_shipNameByte 31 = .ok (.invokestatic 75, 3) := by decide +kernel
theorem d6_shipNameByte_34 : decode b6_shipNameByte 34 = .ok (.ifCond .ne 7, 3) := by decide +kernel
theorem d6_shipNameByte_37 : decode b6_shipNameByte 37 = .ok (.iconst 1, 1) := by decide +kernel
theorem d6_shipNameByte_38 : decode b6_shipNameByte 38 = .ok (.goto 4, 3) := by decide +kernel
theorem d6_shipNameByte_41 : decode b6_shipNameByte 41 = .ok (.iconst 0, 1) := by decide +kernel
theorem d6_shipNameByte_42 : decode b6_shipNameByte 42 = .ok (.iconst 0, 1) := by decide +kernel
theorem d6_shipNameByte_43 : decode b6_shipNameByte 43 = .ok (.iconst 0, 1) := by decide +kernel
theorem d6_shipNameByte_44 : decode b6_shipNameByte 44 = .ok (.invokevirtual 148, 3) := by decide +kernel
theorem d6_shipNameByte_47 : decode b6_shipNameByte 47 = .ok (.ifCond .eq 5, 3) := by decide +kernel
theorem d6_shipNameByte_50 : decode b6_shipNameByte 50 = .ok (.iconst 0, 1) := by decide +kernel
theorem d6_shipNameByte_51 : decode b6_shipNameByte 51 = .ok (.ireturn, 1) := by decide +kernel
theorem d6_shipNameByte_52 : decode b6_shipNameByte 52 = .ok (.aload_n 0, 1) := by decide +kernel
theorem d6_shipNameByte_53 : decode b6_shipNameByte 53 = .ok (.iload_n 1, 1) := by decide +kernel
theorem d6_shipNameByte_54 : decode b6_shipNameByte 54 = .ok (.iconst 1, 1) := by decide +kernel
theorem d6_shipNameByte_55 : decode b6_shipNameByte 55 = .ok (.iload_n 2, 1) := by decide +kernel
theorem d6_shipNameByte_56 : decode b6_shipNameByte 56 = .ok (.iadd, 1) := by decide +kernel
theorem d6_shipNameByte_57 : decode b6_shipNameByte 57 = .ok (.invokevirtual 83, 3) := by decide +kernel
theorem d6_shipNameByte_60 : decode b6_shipNameByte 60 = .ok (.ireturn, 1) := by decide +kernel
abbrev b6_findShip : ByteArray := prog_8_method_73_code
def y6_findShip : MethodName := ⟨"ChannelScheduleModel", "findShip", "()I"⟩
theorem w6_findShip : YV y6_findShip b6_findShip 2 (some .int) 0 := ⟨LW_i 1592 (by decide +kernel) (by decide +kernel), LW_i 1593 (by decide +kernel) (by decide +kernel), LW_i 120 (by decide +kernel) (by decide +kernel), LW_i 1594 (by decide +kernel) (by decide +kernel), by decide +kernel, by decide +kernel⟩
theorem d6_findShip_0 : decode b6_findShip 0 = .ok (.aload_n 0, 1) := by decide +kernel
theorem d6_findShip_1 : decode b6_findShip 1 = .ok (.iconst 0, 1) := by decide +kernel
theorem d6_findShip_2 : decode b6_findShip 2 = .ok (.aload_n 0, 1) := by decide +kernel
theorem d6_findShip_3 : decode b6_findShip 3 = .ok (.getfield 27, 3) := by decide +kernel
theorem d6_findShip_6 : decode b6_findShip 6 = .ok (.invokevirtual 170, 3) := by decide +kernel
theorem d6_findShip_9 : decode b6_findShip 9 = .ok (.istore_n 1, 1) := by decide +kernel
theorem d6_findShip_10 : decode b6_findShip 10 = .ok (.aload_n 0, 1) := by decide +kernel
theorem d6_findShip_11 : decode b6_findShip 11 = .ok (.iload_n 1, 1) := by decide +kernel
theorem d6_findShip_12 : decode b6_findShip 12 = .ok (.iconst (-1), 1) := by decide +kernel
theorem d6_findShip_13 : decode b6_findShip 13 = .ok (.if_icmp .ne 7, 3) := by decide +kernel
theorem d6_findShip_16 : decode b6_findShip 16 = .ok (.iconst 1, 1) := by decide +kernel
theorem d6_findShip_17 : decode b6_findShip 17 = .ok (.goto 4, 3) := by decide +kernel
theorem d6_findShip_20 : decode b6_findShip 20 = .ok (.iconst 0, 1) := by decide +kernel
theorem d6_findShip_21 : decode b6_findShip 21 = .ok (.iconst 0, 1) := by decide +kernel
theorem d6_findShip_22 : decode b6_findShip 22 = .ok (.iconst 0, 1) := by decide +kernel
theorem d6_findShip_23 : decode b6_findShip 23 = .ok (.invokevirtual 148, 3) := by decide +kernel
theorem d6_findShip_26 : decode b6_findShip 26 = .ok (.ifCond .eq 5, 3) := by decide +kernel
theorem d6_findShip_29 : decode b6_findShip 29 = .ok (.iconst 0, 1) := by decide +kernel
theorem d6_findShip_30 : decode b6_findShip 30 = .ok (.ireturn, 1) := by decide +kernel
theorem d6_findShip_31 : decode b6_findShip 31 = .ok (.iload_n 1, 1) := by decide +kernel
theorem d6_findShip_32 : decode b6_findShip 32 = .ok (.ireturn, 1) := by decide +kernel
abbrev b6_bookingCount : ByteArray := prog_8_method_74_code
def y6_bookingCount : MethodName := ⟨"ChannelScheduleModel", "bookingCount", "()I"⟩
theorem w6_bookingCount : YV y6_bookingCount b6_bookingCount 1 (some .int) 0 := ⟨LW_i 1596 (by decide +kernel) (by decide +kernel), LW_i 1597 (by decide +kernel) (by decide +kernel), LW_i 120 (by decide +kernel) (by decide +kernel), LW_i 1598 (by decide +kernel) (by decide +kernel), by decide +kernel, by decide +kernel⟩
theorem d6_bookingCount_0 : decode b6_bookingCount 0 = .ok (.aload_n 0, 1) := by decide +kernel
theorem d6_bookingCount_1 : decode b6_bookingCount 1 = .ok (.aload_n 0, 1) := by decide +kernel
theorem d6_bookingCount_2 : decode b6_bookingCount 2 = .ok (.getfield 13, 3) := by decide +kernel
theorem d6_bookingCount_5 : decode b6_bookingCount 5 = .ok (.iconst 5, 1) := by decide +kernel
theorem d6_bookingCount_6 : decode b6_bookingCount 6 = .ok (.iaload, 1) := by decide +kernel
theorem d6_bookingCount_7 : decode b6_bookingCount 7 = .ok (.invokevirtual 265, 3) := by decide +kernel
theorem d6_bookingCount_10 : decode b6_bookingCount 10 = .ok (.ireturn, 1) := by decide +kernel
abbrev b6_bookingField : ByteArray := prog_8_method_75_code
def y6_bookingField : MethodName := ⟨"ChannelScheduleModel", "bookingField", "(II)I"⟩
theorem w6_bookingField : YV y6_bookingField b6_bookingField 3 (some .int) 2 := ⟨LW_i 1605 (by decide +kernel) (by decide +kernel), LW_i 99 (by decide +kernel) (by decide +kernel), LW_i 120 (by decide +kernel) (by decide +kernel), LW_i 1606 (by decide +kernel) (by decide +kernel), by decide +kernel, by decide +kernel⟩
theorem d6_bookingField_0 : decode b6_bookingField 0 = .ok (.aload_n 0, 1) := by decide +kernel
theorem d6_bookingField_1 : decode b6_bookingField 1 = .ok (.aload_n 0, 1) := by decide +kernel
theorem d6_bookingField_2 : decode b6_bookingField 2 = .ok (.iload_n 1, 1) := by decide +kernel
theorem d6_bookingField_3 : decode b6_bookingField 3 = .ok (.invokevirtual 235, 3) := by decide +kernel
theorem d6_bookingField_6 : decode b6_bookingField 6 = .ok (.ifCond .ne 7, 3) := by decide +kernel
theorem d6_bookingField_9 : decode b6_bookingField 9 = .ok (.iconst 1, 1) := by decide +kernel
theorem d6_bookingField_10 : decode b6_bookingField 10 = .ok (.goto 4, 3) := by decide +kernel
theorem d6_bookingField_13 : decode b6_bookingField 13 = .ok (.iconst 0, 1) := by decide +kernel
theorem d6_bookingField_14 : decode b6_bookingField 14 = .ok (.iconst 0, 1) := by decide +kernel
theorem d6_bookingField_15 : decode b6_bookingField 15 = .ok (.iconst 0, 1) := by decide +kernel
theorem d6_bookingField_16 : decode b6_bookingField 16 = .ok (.invokevirtual 148, 3) := by decide +kernel
theorem d6_bookingField_19 : decode b6_bookingField 19 = .ok (.ifCond .eq 5, 3) := by decide +kernel
theorem d6_bookingField_22 : decode b6_bookingField 22 = .ok (.iconst 0, 1) := by decide +kernel
theorem d6_bookingField_23 : decode b6_bookingField 23 = .ok (.ireturn, 1) := by decide +kernel
theorem d6_bookingField_24 : decode b6_bookingField 24 = .ok (.aload_n 0, 1) := by decide +kernel
theorem d6_bookingField_25 : decode b6_bookingField 25 = .ok (.iload_n 1, 1) := by decide +kernel
theorem d6_bookingField_26 : decode b6_bookingField 26 = .ok (.iload_n 2, 1) := by decide +kernel
theorem d6_bookingField_27 : decode b6_bookingField 27 = .ok (.invokevirtual 91, 3) := by decide +kernel
theorem d6_bookingField_30 : decode b6_bookingField 30 = .ok (.ireturn, 1) := by decide +kernel
abbrev b6_bookedShip : ByteArray := prog_8_method_76_code
def y6_bookedShip : MethodName := ⟨"ChannelScheduleModel", "bookedShip", "(I)I"⟩
theorem w6_bookedShip : YV y6_bookedShip b6_bookedShip 2 (some .int) 1 := ⟨LW_i 1600 (by decide +kernel) (by decide +kernel), LW_i 1601 (by decide +kernel) (by decide +kernel), LW_i 120 (by decide +kernel) (by decide +kernel), LW_i 1602 (by decide +kernel) (by decide +kernel), by decide +kernel, by decide +kernel⟩
theorem d6_bookedShip_0 : decode b6_bookedShip 0 = .ok (.aload_n 0, 1) := by decide +kernel
theorem d6_bookedShip_1 : decode b6_bookedShip 1 = .ok (.iload_n 1, 1) := by decide +kernel
theorem d6_bookedShip_2 : decode b6_bookedShip 2 = .ok (.iconst 0, 1) := by decide +kernel
theorem d6_bookedShip_3 : decode b6_bookedShip 3 = .ok (.invokevirtual 271, 3) := by decide +kernel
theorem d6_bookedShip_6 : decode b6_bookedShip 6 = .ok (.ireturn, 1) := by decide +kernel
abbrev b6_startMinute : ByteArray := prog_8_method_77_code
def y6_startMinute : MethodName := ⟨"ChannelScheduleModel", "startMinute", "(I)I"⟩
theorem w6_startMinute : YV y6_startMinute b6_startMinute 2 (some .int) 1 := ⟨LW_i 1608 (by decide +kernel) (by decide +kernel), LW_i 1609 (by decide +kernel) (by decide +kernel), LW_i 120 (by decide +kernel) (by decide +kernel), LW_i 1610 (by decide +kernel) (by decide +kernel), by decide +kernel, by decide +kernel⟩
theorem d6_startMinute_0 : decode b6_startMinute 0 = .ok (.aload_n 0, 1) := by decide +kernel
theorem d6_startMinute_1 : decode b6_startMinute 1 = .ok (.iload_n 1, 1) := by decide +kernel
theorem d6_startMinute_2 : decode b6_startMinute 2 = .ok (.iconst 2, 1) := by decide +kernel
theorem d6_startMinute_3 : decode b6_startMinute 3 = .ok (.invokevirtual 271, 3) := by decide +kernel
theorem d6_startMinute_6 : decode b6_startMinute 6 = .ok (.ireturn, 1) := by decide +kernel
abbrev b6_endMinute : ByteArray := prog_8_method_78_code
def y6_endMinute : MethodName := ⟨"ChannelScheduleModel", "endMinute", "(I)I"⟩
theorem w6_endMinute : YV y6_endMinute b6_endMinute 2 (some .int) 1 := ⟨LW_i 1612 (by decide +kernel) (by decide +kernel), LW_i 1613 (by decide +kernel) (by decide +kernel), LW_i 120 (by decide +kernel) (by decide +kernel), LW_i 1614 (by decide +kernel) (by decide +kernel), by decide +kernel, by decide +kernel⟩
theorem d6_endMinute_0 : decode b6_endMinute 0 = .ok (.aload_n 0, 1) := by decide +kernel
theorem d6_endMinute_1 : decode b6_endMinute 1 = .ok (.iload_n 1, 1) := by decide +kernel
theorem d6_endMinute_2 : decode b6_endMinute 2 = .ok (.iconst 3, 1) := by decide +kernel
theorem d6_endMinute_3 : decode b6_endMinute 3 = .ok (.invokevirtual 271, 3) := by decide +kernel
theorem d6_endMinute_6 : decode b6_endMinute 6 = .ok (.ireturn, 1) := by decide +kernel
abbrev b6_isInbound : ByteArray := prog_8_method_79_code
def y6_isInbound : MethodName := ⟨"ChannelScheduleModel", "isInbound", "(I)Z"⟩
theorem w6_isInbound : YV y6_isInbound b6_isInbound 2 (some .boolean) 1 := ⟨LW_i 1616 (by decide +kernel) (by decide +kernel), LW_i 1617 (by decide +kernel) (by decide +kernel), LW_i 120 (by decide +kernel) (by decide +kernel), LW_i 1618 (by decide +kernel) (by decide +kernel), by decide +kernel, by decide +kernel⟩
theorem d6_isInbound_0 : decode b6_isInbound 0 = .ok (.aload_n 0, 1) := by decide +kernel
theorem d6_isInbound_1 : decode b6_isInbound 1 = .ok (.iload_n 1, 1) := by decide +kernel
theorem d6_isInbound_2 : decode b6_isInbound 2 = .ok (.iconst 1, 1) := by decide +kernel
theorem d6_isInbound_3 : decode b6_isInbound 3 = .ok (.invokevirtual 271, 3) := by decide +kernel
theorem d6_isInbound_6 : decode b6_isInbound 6 = .ok (.iconst 1, 1) := by decide +kernel
theorem d6_isInbound_7 : decode b6_isInbound 7 = .ok (.if_icmp .ne 7, 3) := by decide +kernel
theorem d6_isInbound_10 : decode b6_isInbound 10 = .ok (.iconst 1, 1) := by decide +kernel
theorem d6_isInbound_11 : decode b6_isInbound 11 = .ok (.goto 4, 3) := by decide +kernel
theorem d6_isInbound_14 : decode b6_isInbound 14 = .ok (.iconst 0, 1) := by decide +kernel
theorem d6_isInbound_15 : decode b6_isInbound 15 = .ok (.ireturn, 1) := by decide +kernel
abbrev b6_isFinished : ByteArray := prog_8_method_80_code
def y6_isFinished : MethodName := ⟨"ChannelScheduleModel", "isFinished", "(I)Z"⟩
theorem w6_isFinished : YV y6_isFinished b6_isFinished 2 (some .boolean) 1 := ⟨LW_i 1620 (by decide +kernel) (by decide +kernel), LW_i 1621 (by decide +kernel) (by decide +kernel), LW_i 120 (by decide +kernel) (by decide +kernel), LW_i 1622 (by decide +kernel) (by decide +kernel), by decide +kernel, by decide +kernel⟩
theorem d6_isFinished_0 : decode b6_isFinished 0 = .ok (.aload_n 0, 1) := by decide +kernel
theorem d6_isFinished_1 : decode b6_isFinished 1 = .ok (.aload_n 0, 1) := by decide +kernel
theorem d6_isFinished_2 : decode b6_isFinished 2 = .ok (.iload_n 1, 1) := by decide +kernel
theorem d6_isFinished_3 : decode b6_isFinished 3 = .ok (.invokevirtual 235, 3) := by decide +kernel
theorem d6_isFinished_6 : decode b6_isFinished 6 = .ok (.ifCond .ne 7, 3) := by decide +kernel
theorem d6_isFinished_9 : decode b6_isFinished 9 = .ok (.iconst 1, 1) := by decide +kernel
theorem d6_isFinished_10 : decode b6_isFinished 10 = .ok (.goto 4, 3) := by decide +kernel
theorem d6_isFinished_13 : decode b6_isFinished 13 = .ok (.iconst 0, 1) := by decide +kernel
theorem d6_isFinished_14 : decode b6_isFinished 14 = .ok (.iconst 0, 1) := by decide +kernel
theorem d6_isFinished_15 : decode b6_isFinished 15 = .ok (.iconst 0, 1) := by decide +kernel
theorem d6_isFinished_16 : decode b6_isFinished 16 = .ok (.invokevirtual 148, 3) := by decide +kernel
theorem d6_isFinished_19 : decode b6_isFinished 19 = .ok (.ifCond .eq 5, 3) := by decide +kernel
theorem d6_isFinished_22 : decode b6_isFinished 22 = .ok (.iconst 0, 1) := by decide +kernel
theorem d6_isFinished_23 : decode b6_isFinished 23 = .ok (.ireturn, 1) := by decide +kernel
theorem d6_isFinished_24 : decode b6_isFinished 24 = .ok (.aload_n 0, 1) := by decide +kernel
theorem d6_isFinished_25 : decode b6_isFinished 25 = .ok (.iload_n 1, 1) := by decide +kernel
theorem d6_isFinished_26 : decode b6_isFinished 26 = .ok (.iconst 3, 1) := by decide +kernel
theorem d6_isFinished_27 : decode b6_isFinished 27 = .ok (.invokevirtual 91, 3) := by decide +kernel
theorem d6_isFinished_30 : decode b6_isFinished 30 = .ok (.aload_n 0, 1) := by decide +kernel
theorem d6_isFinished_31 : decode b6_isFinished 31 = .ok (.getfield 13, 3) := by decide +kernel
theorem d6_isFinished_34 : decode b6_isFinished 34 = .ok (.iconst 3, 1) := by decide +kernel
theorem d6_isFinished_35 : decode b6_isFinished 35 = .ok (.iaload, 1) := by decide +kernel
theorem d6_isFinished_36 : decode b6_isFinished 36 = .ok (.if_icmp .gt 7, 3) := by decide +kernel
theorem d6_isFinished_39 : decode b6_isFinished 39 = .ok (.iconst 1, 1) := by decide +kernel
theorem d6_isFinished_40 : decode b6_isFinished 40 = .ok (.goto 4, 3) := by decide +kernel
theorem d6_isFinished_43 : decode b6_isFinished 43 = .ok (.iconst 0, 1) := by decide +kernel
theorem d6_isFinished_44 : decode b6_isFinished 44 = .ok (.ireturn, 1) := by decide +kernel
abbrev b6_isUnderWay : ByteArray := prog_8_method_81_code
def y6_isUnderWay : MethodName := ⟨"ChannelScheduleModel", "isUnderWay", "(I)Z"⟩
theorem w6_isUnderWay : YV y6_isUnderWay b6_isUnderWay 2 (some .boolean) 1 := ⟨LW_i 1624 (by decide +kernel) (by decide +kernel), LW_i 1625 (by decide +kernel) (by decide +kernel), LW_i 120 (by decide +kernel) (by decide +kernel), LW_i 1626 (by decide +kernel) (by decide +kernel), by decide +kernel, by decide +kernel⟩
theorem d6_isUnderWay_0 : decode b6_isUnderWay 0 = .ok (.aload_n 0, 1) := by decide +kernel
theorem d6_isUnderWay_1 : decode b6_isUnderWay 1 = .ok (.aload_n 0, 1) := by decide +kernel
theorem d6_isUnderWay_2 : decode b6_isUnderWay 2 = .ok (.iload_n 1, 1) := by decide +kernel
theorem d6_isUnderWay_3 : decode b6_isUnderWay 3 = .ok (.invokevirtual 235, 3) := by decide +kernel
theorem d6_isUnderWay_6 : decode b6_isUnderWay 6 = .ok (.ifCond .ne 7, 3) := by decide +kernel
theorem d6_isUnderWay_9 : decode b6_isUnderWay 9 = .ok (.iconst 1, 1) := by decide +kernel
theorem d6_isUnderWay_10 : decode b6_isUnderWay 10 = .ok (.goto 4, 3) := by decide +kernel
theorem d6_isUnderWay_13 : decode b6_isUnderWay 13 = .ok (.iconst 0, 1) := by decide +kernel
theorem d6_isUnderWay_14 : decode b6_isUnderWay 14 = .ok (.iconst 0, 1) := by decide +kernel
theorem d6_isUnderWay_15 : decode b6_isUnderWay 15 = .ok (.iconst 0, 1) := by decide +kernel
theorem d6_isUnderWay_16 : decode b6_isUnderWay 16 = .ok (.invokevirtual 148, 3) := by decide +kernel
theorem d6_isUnderWay_19 : decode b6_isUnderWay 19 = .ok (.ifCond .eq 5, 3) := by decide +kernel
theorem d6_isUnderWay_22 : decode b6_isUnderWay 22 = .ok (.iconst 0, 1) := by decide +kernel
theorem d6_isUnderWay_23 : decode b6_isUnderWay 23 = .ok (.ireturn, 1) := by decide +kernel
theorem d6_isUnderWay_24 : decode b6_isUnderWay 24 = .ok (.aload_n 0, 1) := by decide +kernel
theorem d6_isUnderWay_25 : decode b6_isUnderWay 25 = .ok (.iload_n 1, 1) := by decide +kernel
theorem d6_isUnderWay_26 : decode b6_isUnderWay 26 = .ok (.iconst 3, 1) := by decide +kernel
theorem d6_isUnderWay_27 : decode b6_isUnderWay 27 = .ok (.invokevirtual 91, 3) := by decide +kernel
theorem d6_isUnderWay_30 : decode b6_isUnderWay 30 = .ok (.aload_n 0, 1) := by decide +kernel
theorem d6_isUnderWay_31 : decode b6_isUnderWay 31 = .ok (.getfield 13, 3) := by decide +kernel
theorem d6_isUnderWay_34 : decode b6_isUnderWay 34 = .ok (.iconst 3, 1) := by decide +kernel
theorem d6_isUnderWay_35 : decode b6_isUnderWay 35 = .ok (.iaload, 1) := by decide +kernel
theorem d6_isUnderWay_36 : decode b6_isUnderWay 36 = .ok (.if_icmp .le 22, 3) := by decide +kernel
theorem d6_isUnderWay_39 : decode b6_isUnderWay 39 = .ok (.aload_n 0, 1) := by decide +kernel
theorem d6_isUnderWay_40 : decode b6_isUnderWay 40 = .ok (.iload_n 1, 1) := by decide +kernel
theorem d6_isUnderWay_41 : decode b6_isUnderWay 41 = .ok (.iconst 2, 1) := by decide +kernel
theorem d6_isUnderWay_42 : decode b6_isUnderWay 42 = .ok (.invokevirtual 91, 3) := by decide +kernel
theorem d6_isUnderWay_45 : decode b6_isUnderWay 45 = .ok (.aload_n 0, 1) := by decide +kernel
theorem d6_isUnderWay_46 : decode b6_isUnderWay 46 = .ok (.getfield 13, 3) := by decide +kernel
theorem d6_isUnderWay_49 : decode b6_isUnderWay 49 = .ok (.iconst 3, 1) := by decide +kernel
theorem d6_isUnderWay_50 : decode b6_isUnderWay 50 = .ok (.iaload, 1) := by decide +kernel
theorem d6_isUnderWay_51 : decode b6_isUnderWay 51 = .ok (.if_icmp .gt 7, 3) := by decide +kernel
theorem d6_isUnderWay_54 : decode b6_isUnderWay 54 = .ok (.iconst 1, 1) := by decide +kernel
theorem d6_isUnderWay_55 : decode b6_isUnderWay 55 = .ok (.goto 4, 3) := by decide +kernel
theorem d6_isUnderWay_58 : decode b6_isUnderWay 58 = .ok (.iconst 0, 1) := by decide +kernel
theorem d6_isUnderWay_59 : decode b6_isUnderWay 59 = .ok (.ireturn, 1) := by decide +kernel
abbrev b6_shipsIn : ByteArray := prog_8_method_82_code
def y6_shipsIn : MethodName := ⟨"ChannelScheduleModel", "shipsIn", "(I)I"⟩
theorem w6_shipsIn : YV y6_shipsIn b6_shipsIn 4 (some .int) 1 := ⟨LW_i 1633 (by decide +kernel) (by decide +kernel), LW_i 100 (by decide +kernel) (by decide +kernel), LW_i 120 (by decide +kernel) (by decide +kernel), LW_i 1634 (by decide +kernel) (by decide +kernel), by decide +kernel, by decide +kernel⟩
theorem d6_shipsIn_0 : decode b6_shipsIn 0 = .ok (.iconst 0, 1) := by decide +kernel
theorem d6_shipsIn_1 : decode b6_shipsIn 1 = .ok (.istore_n 2, 1) := by decide +kernel
theorem d6_shipsIn_2 : decode b6_shipsIn 2 = .ok (.iconst 0, 1) := by decide +kernel
theorem d6_shipsIn_3 : decode b6_shipsIn 3 = .ok (.istore_n 3, 1) := by decide +kernel
theorem d6_shipsIn_4 : decode b6_shipsIn 4 = .ok (.iload_n 3, 1) := by decide +kernel
theorem d6_shipsIn_5 : decode b6_shipsIn 5 = .ok (.aload_n 0, 1) := by decide +kernel
theorem d6_shipsIn_6 : decode b6_shipsIn 6 = .ok (.getfield 13, 3) := by decide +kernel
theorem d6_shipsIn_9 : decode b6_shipsIn 9 = .ok (.iconst 5, 1) := by decide +kernel
theorem d6_shipsIn_10 : decode b6_shipsIn 10 = .ok (.iaload, 1) := by decide +kernel
theorem d6_shipsIn_11 : decode b6_shipsIn 11 = .ok (.if_icmp .ge 37, 3) := by decide +kernel
theorem d6_shipsIn_14 : decode b6_shipsIn 14 = .ok (.iload_n 2, 1) := by decide +kernel
theorem d6_shipsIn_15 : decode b6_shipsIn 15 = .ok (.aload_n 0, 1) := by decide +kernel
theorem d6_shipsIn_16 : decode b6_shipsIn 16 = .ok (.iload_n 3, 1) := by decide +kernel
theorem d6_shipsIn_17 : decode b6_shipsIn 17 = .ok (.iconst 2, 1) := by decide +kernel
theorem d6_shipsIn_18 : decode b6_shipsIn 18 = .ok (.invokevirtual 91, 3) := by decide +kernel
theorem d6_shipsIn_21 : decode b6_shipsIn 21 = .ok (.iload_n 1, 1) := by decide +kernel
theorem d6_shipsIn_22 : decode b6_shipsIn 22 = .ok (.if_icmp .gt 17, 3) := by decide +kernel
theorem d6_shipsIn_25 : decode b6_shipsIn 25 = .ok (.aload_n 0, 1) := by decide +kernel
theorem d6_shipsIn_26 : decode b6_shipsIn 26 = .ok (.iload_n 3, 1) := by decide +kernel
theorem d6_shipsIn_27 : decode b6_shipsIn 27 = .ok (.iconst 3, 1) := by decide +kernel
theorem d6_shipsIn_28 : decode b6_shipsIn 28 = .ok (.invokevirtual 91, 3) := by decide +kernel
theorem d6_shipsIn_31 : decode b6_shipsIn 31 = .ok (.iload_n 1, 1) := by decide +kernel
theorem d6_shipsIn_32 : decode b6_shipsIn 32 = .ok (.if_icmp .le 7, 3) := by decide +kernel
theorem d6_shipsIn_35 : decode b6_shipsIn 35 = .ok (.iconst 1, 1) := by decide +kernel
theorem d6_shipsIn_36 : decode b6_shipsIn 36 = .ok (.goto 4, 3) := by decide +kernel
theorem d6_shipsIn_39 : decode b6_shipsIn 39 = .ok (.iconst 0, 1) := by decide +kernel
theorem d6_shipsIn_40 : decode b6_shipsIn 40 = .ok (.iadd, 1) := by decide +kernel
theorem d6_shipsIn_41 : decode b6_shipsIn 41 = .ok (.istore_n 2, 1) := by decide +kernel
theorem d6_shipsIn_42 : decode b6_shipsIn 42 = .ok (.iinc 3 1, 3) := by decide +kernel
theorem d6_shipsIn_45 : decode b6_shipsIn 45 = .ok (.goto (-41), 3) := by decide +kernel
theorem d6_shipsIn_48 : decode b6_shipsIn 48 = .ok (.iload_n 2, 1) := by decide +kernel
theorem d6_shipsIn_49 : decode b6_shipsIn 49 = .ok (.ireturn, 1) := by decide +kernel
abbrev b6_occupancy : ByteArray := prog_8_method_83_code
def y6_occupancy : MethodName := ⟨"ChannelScheduleModel", "occupancy", "(I)I"⟩
theorem w6_occupancy : YV y6_occupancy b6_occupancy 2 (some .int) 1 := ⟨LW_i 1628 (by decide +kernel) (by decide +kernel), LW_i 1629 (by decide +kernel) (by decide +kernel), LW_i 120 (by decide +kernel) (by decide +kernel), LW_i 1630 (by decide +kernel) (by decide +kernel), by decide +kernel, by decide +kernel⟩
theorem d6_occupancy_0 : decode b6_occupancy 0 = .ok (.aload_n 0, 1) := by decide +kernel
theorem d6_occupancy_1 : decode b6_occupancy 1 = .ok (.iload_n 1, 1) := by decide +kernel
theorem d6_occupancy_2 : decode b6_occupancy 2 = .ok (.iconst 0, 1) := by decide +kernel
theorem d6_occupancy_3 : decode b6_occupancy 3 = .ok (.sipush 1200, 3) := by decide +kernel
theorem d6_occupancy_6 : decode b6_occupancy 6 = .ok (.invokestatic 75, 3) := by decide +kernel
theorem d6_occupancy_9 : decode b6_occupancy 9 = .ok (.ifCond .ne 7, 3) := by decide +kernel
theorem d6_occupancy_12 : decode b6_occupancy 12 = .ok (.iconst 1, 1) := by decide +kernel
theorem d6_occupancy_13 : decode b6_occupancy 13 = .ok (.goto 4, 3) := by decide +kernel
theorem d6_occupancy_16 : decode b6_occupancy 16 = .ok (.iconst 0, 1) := by decide +kernel
theorem d6_occupancy_17 : decode b6_occupancy 17 = .ok (.iconst 0, 1) := by decide +kernel
theorem d6_occupancy_18 : decode b6_occupancy 18 = .ok (.iconst 0, 1) := by decide +kernel
theorem d6_occupancy_19 : decode b6_occupancy 19 = .ok (.invokevirtual 148, 3) := by decide +kernel
theorem d6_occupancy_22 : decode b6_occupancy 22 = .ok (.ifCond .eq 5, 3) := by decide +kernel
theorem d6_occupancy_25 : decode b6_occupancy 25 = .ok (.iconst 0, 1) := by decide +kernel
theorem d6_occupancy_26 : decode b6_occupancy 26 = .ok (.ireturn, 1) := by decide +kernel
theorem d6_occupancy_27 : decode b6_occupancy 27 = .ok (.aload_n 0, 1) := by decide +kernel
theorem d6_occupancy_28 : decode b6_occupancy 28 = .ok (.iload_n 1, 1) := by decide +kernel
theorem d6_occupancy_29 : decode b6_occupancy 29 = .ok (.invokevirtual 274, 3) := by decide +kernel
theorem d6_occupancy_32 : decode b6_occupancy 32 = .ok (.ireturn, 1) := by decide +kernel
abbrev b6_areMinutes : ByteArray := prog_8_method_84_code
def y6_areMinutes : MethodName := ⟨"ChannelScheduleModel", "areMinutes", "(II)Z"⟩
theorem w6_areMinutes : YS y6_areMinutes b6_areMinutes 2 (some .boolean) 2 := ⟨LW_i 1640 (by decide +kernel) (by decide +kernel), LW_i 120 (by decide +kernel) (by decide +kernel), LW_i 1641 (by decide +kernel) (by decide +kernel), by decide +kernel, by decide +kernel⟩
theorem d6_areMinutes_0 : decode b6_areMinutes 0 = .ok (.iload_n 0, 1) := by decide +kernel
theorem d6_areMinutes_1 : decode b6_areMinutes 1 = .ok (.iconst 0, 1) := by decide +kernel
theorem d6_areMinutes_2 : decode b6_areMinutes 2 = .ok (.sipush 1200, 3) := by decide +kernel
theorem d6_areMinutes_5 : decode b6_areMinutes 5 = .ok (.invokestatic 75, 3) := by decide +kernel
theorem d6_areMinutes_8 : decode b6_areMinutes 8 = .ok (.ifCond .eq 18, 3) := by decide +kernel
theorem d6_areMinutes_11 : decode b6_areMinutes 11 = .ok (.iload_n 1, 1) := by decide +kernel
theorem d6_areMinutes_12 : decode b6_areMinutes 12 = .ok (.iload_n 0, 1) := by decide +kernel
theorem d6_areMinutes_13 : decode b6_areMinutes 13 = .ok (.sipush 1200, 3) := by decide +kernel
theorem d6_areMinutes_16 : decode b6_areMinutes 16 = .ok (.invokestatic 75, 3) := by decide +kernel
theorem d6_areMinutes_19 : decode b6_areMinutes 19 = .ok (.ifCond .eq 7, 3) := by decide +kernel
theorem d6_areMinutes_22 : decode b6_areMinutes 22 = .ok (.iconst 1, 1) := by decide +kernel
theorem d6_areMinutes_23 : decode b6_areMinutes 23 = .ok (.goto 4, 3) := by decide +kernel
theorem d6_areMinutes_26 : decode b6_areMinutes 26 = .ok (.iconst 0, 1) := by decide +kernel
theorem d6_areMinutes_27 : decode b6_areMinutes 27 = .ok (.ireturn, 1) := by decide +kernel
abbrev b6_emptyMinutes : ByteArray := prog_8_method_85_code
def y6_emptyMinutes : MethodName := ⟨"ChannelScheduleModel", "emptyMinutes", "(II)I"⟩
theorem w6_emptyMinutes : YV y6_emptyMinutes b6_emptyMinutes 5 (some .int) 2 := ⟨LW_i 1636 (by decide +kernel) (by decide +kernel), LW_i 1637 (by decide +kernel) (by decide +kernel), LW_i 120 (by decide +kernel) (by decide +kernel), LW_i 1638 (by decide +kernel) (by decide +kernel), by decide +kernel, by decide +kernel⟩
theorem d6_emptyMinutes_0 : decode b6_emptyMinutes 0 = .ok (.aload_n 0, 1) := by decide +kernel
theorem d6_emptyMinutes_1 : decode b6_emptyMinutes 1 = .ok (.iload_n 1, 1) := by decide +kernel
theorem d6_emptyMinutes_2 : decode b6_emptyMinutes 2 = .ok (.iload_n 2, 1) := by decide +kernel
theorem d6_emptyMinutes_3 : decode b6_emptyMinutes 3 = .ok (.invokestatic 277, 3) := by decide +kernel
theorem d6_emptyMinutes_6 : decode b6_emptyMinutes 6 = .ok (.ifCond .ne 7, 3) := by decide +kernel
theorem d6_emptyMinutes_9 : decode b6_emptyMinutes 9 = .ok (.iconst 1, 1) := by decide +kernel
theorem d6_emptyMinutes_10 : decode b6_emptyMinutes 10 = .ok (.goto 4, 3) := by decide +kernel
theorem d6_emptyMinutes_13 : decode b6_emptyMinutes 13 = .ok (.iconst 0, 1) := by decide +kernel
theorem d6_emptyMinutes_14 : decode b6_emptyMinutes 14 = .ok (.iconst 0, 1) := by decide +kernel
theorem d6_emptyMinutes_15 : decode b6_emptyMinutes 15 = .ok (.iconst 0, 1) := by decide +kernel
theorem d6_emptyMinutes_16 : decode b6_emptyMinutes 16 = .ok (.invokevirtual 148, 3) := by decide +kernel
theorem d6_emptyMinutes_19 : decode b6_emptyMinutes 19 = .ok (.ifCond .eq 5, 3) := by decide +kernel
theorem d6_emptyMinutes_22 : decode b6_emptyMinutes 22 = .ok (.iconst 0, 1) := by decide +kernel
theorem d6_emptyMinutes_23 : decode b6_emptyMinutes 23 = .ok (.ireturn, 1) := by decide +kernel
theorem d6_emptyMinutes_24 : decode b6_emptyMinutes 24 = .ok (.iconst 0, 1) := by decide +kernel
theorem d6_emptyMinutes_25 : decode b6_emptyMinutes 25 = .ok (.istore_n 3, 1) := by decide +kernel
theorem d6_emptyMinutes_26 : decode b6_emptyMinutes 26 = .ok (.iload_n 1, 1) := by decide +kernel
theorem d6_emptyMinutes_27 : decode b6_emptyMinutes 27 = .ok (.istore 4, 2) := by decide +kernel
theorem d6_emptyMinutes_29 : decode b6_emptyMinutes 29 = .ok (.iload 4, 2) := by decide +kernel
theorem d6_emptyMinutes_31 : decode b6_emptyMinutes 31 = .ok (.iload_n 2, 1) := by decide +kernel
theorem d6_emptyMinutes_32 : decode b6_emptyMinutes 32 = .ok (.if_icmp .gt 26, 3) := by decide +kernel
theorem d6_emptyMinutes_35 : decode b6_emptyMinutes 35 = .ok (.iload_n 3, 1) := by decide +kernel
theorem d6_emptyMinutes_36 : decode b6_emptyMinutes 36 = .ok (.aload_n 0, 1) := by decide +kernel
theorem d6_emptyMinutes_37 : decode b6_emptyMinutes 37 = .ok (.iload 4, 2) := by decide +kernel
theorem d6_emptyMinutes_39 : decode b6_emptyMinutes 39 = .ok (.invokevirtual 274, 3) := by decide +kernel
theorem d6_emptyMinutes_42 : decode b6_emptyMinutes 42 = .ok (.ifCond .ne 7, 3) := by decide +kernel
theorem d6_emptyMinutes_45 : decode b6_emptyMinutes 45 = .ok (.iconst 1, 1) := by decide +kernel
theorem d6_emptyMinutes_46 : decode b6_emptyMinutes 46 = .ok (.goto 4, 3) := by decide +kernel
theorem d6_emptyMinutes_49 : decode b6_emptyMinutes 49 = .ok (.iconst 0, 1) := by decide +kernel
theorem d6_emptyMinutes_50 : decode b6_emptyMinutes 50 = .ok (.iadd, 1) := by decide +kernel
theorem d6_emptyMinutes_51 : decode b6_emptyMinutes 51 = .ok (.istore_n 3, 1) := by decide +kernel
theorem d6_emptyMinutes_52 : decode b6_emptyMinutes 52 = .ok (.iinc 4 1, 3) := by decide +kernel
theorem d6_emptyMinutes_55 : decode b6_emptyMinutes 55 = .ok (.goto (-26), 3) := by decide +kernel
theorem d6_emptyMinutes_58 : decode b6_emptyMinutes 58 = .ok (.iload_n 3, 1) := by decide +kernel
theorem d6_emptyMinutes_59 : decode b6_emptyMinutes 59 = .ok (.ireturn, 1) := by decide +kernel
abbrev b6_longestEmptyRun : ByteArray := prog_8_method_86_code
def y6_longestEmptyRun : MethodName := ⟨"ChannelScheduleModel", "longestEmptyRun", "(II)I"⟩
theorem w6_longestEmptyRun : YV y6_longestEmptyRun b6_longestEmptyRun 6 (some .int) 2 := ⟨LW_i 1643 (by decide +kernel) (by decide +kernel), LW_i 1644 (by decide +kernel) (by decide +kernel), LW_i 120 (by decide +kernel) (by decide +kernel), LW_i 1645 (by decide +kernel) (by decide +kernel), by decide +kernel, by decide +kernel⟩
theorem d6_longestEmptyRun_0 : decode b6_longestEmptyRun 0 = .ok (.aload_n 0, 1) := by decide +kernel
theorem d6_longestEmptyRun_1 : decode b6_longestEmptyRun 1 = .ok (.iload_n 1, 1) := by decide +kernel
theorem d6_longestEmptyRun_2 : decode b6_longestEmptyRun 2 = .ok (.iload_n 2, 1) := by decide +kernel
theorem d6_longestEmptyRun_3 : decode b6_longestEmptyRun 3 = .ok (.invokestatic 277, 3) := by decide +kernel
theorem d6_longestEmptyRun_6 : decode b6_longestEmptyRun 6 = .ok (.ifCond .ne 7, 3) := by decide +kernel
theorem d6_longestEmptyRun_9 : decode b6_longestEmptyRun 9 = .ok (.iconst 1, 1) := by decide +kernel
theorem d6_longestEmptyRun_10 : decode b6_longestEmptyRun 10 = .ok (.goto 4, 3) := by decide +kernel
theorem d6_longestEmptyRun_13 : decode b6_longestEmptyRun 13 = .ok (.iconst 0, 1) := by decide +kernel
theorem d6_longestEmptyRun_14 : decode b6_longestEmptyRun 14 = .ok (.iconst 0, 1) := by decide +kernel
theorem d6_longestEmptyRun_15 : decode b6_longestEmptyRun 15 = .ok (.iconst 0, 1) := by decide +kernel
theorem d6_longestEmptyRun_16 : decode b6_longestEmptyRun 16 = .ok (.invokevirtual 148, 3) := by decide +kernel
theorem d6_longestEmptyRun_19 : decode b6_longestEmptyRun 19 = .ok (.ifCond .eq 5, 3) := by decide +kernel
theorem d6_longestEmptyRun_22 : decode b6_longestEmptyRun 22 = .ok (.iconst 0, 1) := by decide +kernel
theorem d6_longestEmptyRun_23 : decode b6_longestEmptyRun 23 = .ok (.ireturn, 1) := by decide +kernel
theorem d6_longestEmptyRun_24 : decode b6_longestEmptyRun 24 = .ok (.iconst 0, 1) := by decide +kernel
theorem d6_longestEmptyRun_25 : decode b6_longestEmptyRun 25 = .ok (.istore_n 3, 1) := by decide +kernel
theorem d6_longestEmptyRun_26 : decode b6_longestEmptyRun 26 = .ok (.iconst 0, 1) := by decide +kernel
theorem d6_longestEmptyRun_27 : decode b6_longestEmptyRun 27 = .ok (.istore 4, 2) := by decide +kernel
theorem d6_longestEmptyRun_29 : decode b6_longestEmptyRun 29 = .ok (.iload_n 1, 1) := by decide +kernel
theorem d6_longestEmptyRun_30 : decode b6_longestEmptyRun 30 = .ok (.istore 5, 2) := by decide +kernel
theorem d6_longestEmptyRun_32 : decode b6_longestEmptyRun 32 = .ok (.iload 5, 2) := by decide +kernel
theorem d6_longestEmptyRun_34 : decode b6_longestEmptyRun 34 = .ok (.iload_n 2, 1) := by decide +kernel
theorem d6_longestEmptyRun_35 : decode b6_longestEmptyRun 35 = .ok (.if_icmp .gt 37, 3) := by decide +kernel
theorem d6_longestEmptyRun_38 : decode b6_longestEmptyRun 38 = .ok (.aload_n 0, 1) := by decide +kernel
theorem d6_longestEmptyRun_39 : decode b6_longestEmptyRun 39 = .ok (.iload 5, 2) := by decide +kernel
theorem d6_longestEmptyRun_41 : decode b6_longestEmptyRun 41 = .ok (.invokevirtual 274, 3) := by decide +kernel
theorem d6_longestEmptyRun_44 : decode b6_longestEmptyRun 44 = .ok (.ifCond .ne 10, 3) := by decide +kernel
theorem d6_longestEmptyRun_47 : decode b6_longestEmptyRun 47 = .ok (.iload 4, 2) := by decide +kernel
theorem d6_longestEmptyRun_49 : decode b6_longestEmptyRun 49 = .ok (.iconst 1, 1) := by decide +kernel
theorem d6_longestEmptyRun_50 : decode b6_longestEmptyRun 50 = .ok (.iadd, 1) := by decide +kernel
theorem d6_longestEmptyRun_51 : decode b6_longestEmptyRun 51 = .ok (.goto 4, 3) := by decide +kernel
theorem d6_longestEmptyRun_54 : decode b6_longestEmptyRun 54 = .ok (.iconst 0, 1) := by decide +kernel
theorem d6_longestEmptyRun_55 : decode b6_longestEmptyRun 55 = .ok (.istore 4, 2) := by decide +kernel
theorem d6_longestEmptyRun_57 : decode b6_longestEmptyRun 57 = .ok (.iload 4, 2) := by decide +kernel
theorem d6_longestEmptyRun_59 : decode b6_longestEmptyRun 59 = .ok (.iload_n 3, 1) := by decide +kernel
theorem d6_longestEmptyRun_60 : decode b6_longestEmptyRun 60 = .ok (.if_icmp .le 6, 3) := by decide +kernel
theorem d6_longestEmptyRun_63 : decode b6_longestEmptyRun 63 = .ok (.iload 4, 2) := by decide +kernel
theorem d6_longestEmptyRun_65 : decode b6_longestEmptyRun 65 = .ok (.istore_n 3, 1) := by decide +kernel
theorem d6_longestEmptyRun_66 : decode b6_longestEmptyRun 66 = .ok (.iinc 5 1, 3) := by decide +kernel
theorem d6_longestEmptyRun_69 : decode b6_longestEmptyRun 69 = .ok (.goto (-37), 3) := by decide +kernel
theorem d6_longestEmptyRun_72 : decode b6_longestEmptyRun 72 = .ok (.iload_n 3, 1) := by decide +kernel
theorem d6_longestEmptyRun_73 : decode b6_longestEmptyRun 73 = .ok (.ireturn, 1) := by decide +kernel
abbrev b6_conflictCount : ByteArray := prog_8_method_87_code
def y6_conflictCount : MethodName := ⟨"ChannelScheduleModel", "conflictCount", "(IZI)I"⟩
theorem w6_conflictCount : YV y6_conflictCount b6_conflictCount 7 (some .int) 3 := ⟨LW_i 1647 (by decide +kernel) (by decide +kernel), LW_i 1648 (by decide +kernel) (by decide +kernel), LW_i 120 (by decide +kernel) (by decide +kernel), LW_i 1649 (by decide +kernel) (by decide +kernel), by decide +kernel, by decide +kernel⟩
theorem d6_conflictCount_0 : decode b6_conflictCount 0 = .ok (.aload_n 0, 1) := by decide +kernel
theorem d6_conflictCount_1 : decode b6_conflictCount 1 = .ok (.aload_n 0, 1) := by decide +kernel
theorem d6_conflictCount_2 : decode b6_conflictCount 2 = .ok (.iload_n 1, 1) := by decide +kernel
theorem d6_conflictCount_3 : decode b6_conflictCount 3 = .ok (.invokevirtual 268, 3) := by decide +kernel
theorem d6_conflictCount_6 : decode b6_conflictCount 6 = .ok (.ifCond .ne 7, 3) := by decide +kernel
theorem d6_conflictCount_9 : decode b6_conflictCount 9 = .ok (.iconst 1, 1) := by decide +kernel
theorem d6_conflictCount_10 : decode b6_conflictCount 10 = .ok (.goto 4, 3) := by decide +kernel
theorem d6_conflictCount_13 : decode b6_conflictCount 13 = .ok (.iconst 0, 1) := by decide +kernel
theorem d6_conflictCount_14 : decode b6_conflictCount 14 = .ok (.iload_n 3, 1) := by decide +kernel
theorem d6_conflictCount_15 : decode b6_conflictCount 15 = .ok (.iconst 0, 1) := by decide +kernel
theorem d6_conflictCount_16 : decode b6_conflictCount 16 = .ok (.sipush 999, 3) := by decide +kernel
theorem d6_conflictCount_19 : decode b6_conflictCount 19 = .ok (.invokestatic 75, 3) := by decide +kernel
theorem d6_conflictCount_22 : decode b6_conflictCount 22 = .ok (.ifCond .ne 7, 3) := by decide +kernel
theorem d6_conflictCount_25 : decode b6_conflictCount 25 = .ok (.iconst 1, 1) := by decide +kernel
theorem d6_conflictCount_26 : decode b6_conflictCount 26 = .ok (.goto 4, 3) := by decide +kernel
theorem d6_conflictCount_29 : decode b6_conflictCount 29 = .ok (.iconst 0, 1) := by decide +kernel
theorem d6_conflictCount_30 : decode b6_conflictCount 30 = .ok (.iconst 0, 1) := by decide +kernel
theorem d6_conflictCount_31 : decode b6_conflictCount 31 = .ok (.invokevirtual 148, 3) := by decide +kernel
theorem d6_conflictCount_34 : decode b6_conflictCount 34 = .ok (.ifCond .eq 5, 3) := by decide +kernel
theorem d6_conflictCount_37 : decode b6_conflictCount 37 = .ok (.iconst 0, 1) := by decide +kernel
theorem d6_conflictCount_38 : decode b6_conflictCount 38 = .ok (.ireturn, 1) := by decide +kernel
theorem d6_conflictCount_39 : decode b6_conflictCount 39 = .ok (.iconst 0, 1) := by decide +kernel
theorem d6_conflictCount_40 : decode b6_conflictCount 40 = .ok (.istore 4, 2) := by decide +kernel
theorem d6_conflictCount_42 : decode b6_conflictCount 42 = .ok (.iload_n 3, 1) := by decide +kernel
theorem d6_conflictCount_43 : decode b6_conflictCount 43 = .ok (.aload_n 0, 1) := by decide +kernel
theorem d6_conflictCount_44 : decode b6_conflictCount 44 = .ok (.iload_n 1, 1) := by decide +kernel
theorem d6_conflictCount_45 : decode b6_conflictCount 45 = .ok (.invokevirtual 94, 3) := by decide +kernel
theorem d6_conflictCount_48 : decode b6_conflictCount 48 = .ok (.iadd, 1) := by decide +kernel
theorem d6_conflictCount_49 : decode b6_conflictCount 49 = .ok (.istore 5, 2) := by decide +kernel
theorem d6_conflictCount_51 : decode b6_conflictCount 51 = .ok (.iconst 0, 1) := by decide +kernel
theorem d6_conflictCount_52 : decode b6_conflictCount 52 = .ok (.istore 6, 2) := by decide +kernel
theorem d6_conflictCount_54 : decode b6_conflictCount 54 = .ok (.iload 6, 2) := by decide +kernel
theorem d6_conflictCount_56 : decode b6_conflictCount 56 = .ok (.aload_n 0, 1) := by decide +kernel
theorem d6_conflictCount_57 : decode b6_conflictCount 57 = .ok (.getfield 13, 3) := by decide +kernel
theorem d6_conflictCount_60 : decode b6_conflictCount 60 = .ok (.iconst 5, 1) := by decide +kernel
theorem d6_conflictCount_61 : decode b6_conflictCount 61 = .ok (.iaload, 1) := by decide +kernel
theorem d6_conflictCount_62 : decode b6_conflictCount 62 = .ok (.if_icmp .ge 40, 3) := by decide +kernel
theorem d6_conflictCount_65 : decode b6_conflictCount 65 = .ok (.iload 4, 2) := by decide +kernel
theorem d6_conflictCount_67 : decode b6_conflictCount 67 = .ok (.aload_n 0, 1) := by decide +kernel
theorem d6_conflictCount_68 : decode b6_conflictCount 68 = .ok (.iload 6, 2) := by decide +kernel
theorem d6_conflictCount_70 : decode b6_conflictCount 70 = .ok (.iload_n 2, 1) := by decide +kernel
theorem d6_conflictCount_71 : decode b6_conflictCount 71 = .ok (.ifCond .eq 7, 3) := by decide +kernel
theorem d6_conflictCount_74 : decode b6_conflictCount 74 = .ok (.iconst 1, 1) := by decide +kernel
theorem d6_conflictCount_75 : decode b6_conflictCount 75 = .ok (.goto 4, 3) := by decide +kernel
theorem d6_conflictCount_78 : decode b6_conflictCount 78 = .ok (.iconst 0, 1) := by decide +kernel
theorem d6_conflictCount_79 : decode b6_conflictCount 79 = .ok (.iload_n 3, 1) := by decide +kernel
theorem d6_conflictCount_80 : decode b6_conflictCount 80 = .ok (.iload 5, 2) := by decide +kernel
theorem d6_conflictCount_82 : decode b6_conflictCount 82 = .ok (.invokevirtual 98, 3) := by decide +kernel
theorem d6_conflictCount_85 : decode b6_conflictCount 85 = .ok (.ifCond .eq 7, 3) := by decide +kernel
theorem d6_conflictCount_88 : decode b6_conflictCount 88 = .ok (.iconst 1, 1) := by decide +kernel
theorem d6_conflictCount_89 : decode b6_conflictCount 89 = .ok (.goto 4, 3) := by decide +kernel
theorem d6_conflictCount_92 : decode b6_conflictCount 92 = .ok (.iconst 0, 1) := by decide +kernel
theorem d6_conflictCount_93 : decode b6_conflictCount 93 = .ok (.iadd, 1) := by decide +kernel
theorem d6_conflictCount_94 : decode b6_conflictCount 94 = .ok (.istore 4, 2) := by decide +kernel
theorem d6_conflictCount_96 : decode b6_conflictCount 96 = .ok (.iinc 6 1, 3) := by decide +kernel
theorem d6_conflictCount_99 : decode b6_conflictCount 99 = .ok (.goto (-45), 3) := by decide +kernel
theorem d6_conflictCount_102 : decode b6_conflictCount 102 = .ok (.iload 4, 2) := by decide +kernel
theorem d6_conflictCount_104 : decode b6_conflictCount 104 = .ok (.ireturn, 1) := by decide +kernel
abbrev b6_firstConflict : ByteArray := prog_8_method_88_code
def y6_firstConflict : MethodName := ⟨"ChannelScheduleModel", "firstConflict", "(IZI)I"⟩
theorem w6_firstConflict : YV y6_firstConflict b6_firstConflict 4 (some .int) 3 := ⟨LW_i 1651 (by decide +kernel) (by decide +kernel), LW_i 1652 (by decide +kernel) (by decide +kernel), LW_i 120 (by decide +kernel) (by decide +kernel), LW_i 1653 (by decide +kernel) (by decide +kernel), by decide +kernel, by decide +kernel⟩
theorem d6_firstConflict_0 : decode b6_firstConflict 0 = .ok (.aload_n 0, 1) := by decide +kernel
theorem d6_firstConflict_1 : decode b6_firstConflict 1 = .ok (.aload_n 0, 1) := by decide +kernel
theorem d6_firstConflict_2 : decode b6_firstConflict 2 = .ok (.iload_n 1, 1) := by decide +kernel
theorem d6_firstConflict_3 : decode b6_firstConflict 3 = .ok (.invokevirtual 268, 3) := by decide +kernel
theorem d6_firstConflict_6 : decode b6_firstConflict 6 = .ok (.ifCond .ne 7, 3) := by decide +kernel
theorem d6_firstConflict_9 : decode b6_firstConflict 9 = .ok (.iconst 1, 1) := by decide +kernel
theorem d6_firstConflict_10 : decode b6_firstConflict 10 = .ok (.goto 4, 3) := by decide +kernel
theorem d6_firstConflict_13 : decode b6_firstConflict 13 = .ok (.iconst 0, 1) := by decide +kernel
theorem d6_firstConflict_14 : decode b6_firstConflict 14 = .ok (.iload_n 3, 1) := by decide +kernel
theorem d6_firstConflict_15 : decode b6_firstConflict 15 = .ok (.iconst 0, 1) := by decide +kernel
theorem d6_firstConflict_16 : decode b6_firstConflict 16 = .ok (.sipush 999, 3) := by decide +kernel
theorem d6_firstConflict_19 : decode b6_firstConflict 19 = .ok (.invokestatic 75, 3) := by decide +kernel
theorem d6_firstConflict_22 : decode b6_firstConflict 22 = .ok (.ifCond .ne 7, 3) := by decide +kernel
theorem d6_firstConflict_25 : decode b6_firstConflict 25 = .ok (.iconst 1, 1) := by decide +kernel
theorem d6_firstConflict_26 : decode b6_firstConflict 26 = .ok (.goto 4, 3) := by decide +kernel
theorem d6_firstConflict_29 : decode b6_firstConflict 29 = .ok (.iconst 0, 1) := by decide +kernel
theorem d6_firstConflict_30 : decode b6_firstConflict 30 = .ok (.iconst 0, 1) := by decide +kernel
theorem d6_firstConflict_31 : decode b6_firstConflict 31 = .ok (.invokevirtual 148, 3) := by decide +kernel
theorem d6_firstConflict_34 : decode b6_firstConflict 34 = .ok (.ifCond .eq 5, 3) := by decide +kernel
theorem d6_firstConflict_37 : decode b6_firstConflict 37 = .ok (.iconst 0, 1) := by decide +kernel
theorem d6_firstConflict_38 : decode b6_firstConflict 38 = .ok (.ireturn, 1) := by decide +kernel
theorem d6_firstConflict_39 : decode b6_firstConflict 39 = .ok (.aload_n 0, 1) := by decide +kernel
theorem d6_firstConflict_40 : decode b6_firstConflict 40 = .ok (.iload_n 1, 1) := by decide +kernel
theorem d6_firstConflict_41 : decode b6_firstConflict 41 = .ok (.iload_n 2, 1) := by decide +kernel
theorem d6_firstConflict_42 : decode b6_firstConflict 42 = .ok (.ifCond .eq 7, 3) := by decide +kernel
theorem d6_firstConflict_45 : decode b6_firstConflict 45 = .ok (.iconst 1, 1) := by decide +kernel
theorem d6_firstConflict_46 : decode b6_firstConflict 46 = .ok (.goto 4, 3) := by decide +kernel
theorem d6_firstConflict_49 : decode b6_firstConflict 49 = .ok (.iconst 0, 1) := by decide +kernel
theorem d6_firstConflict_50 : decode b6_firstConflict 50 = .ok (.iload_n 3, 1) := by decide +kernel
theorem d6_firstConflict_51 : decode b6_firstConflict 51 = .ok (.iconst (-1), 1) := by decide +kernel
theorem d6_firstConflict_52 : decode b6_firstConflict 52 = .ok (.invokevirtual 102, 3) := by decide +kernel
theorem d6_firstConflict_55 : decode b6_firstConflict 55 = .ok (.ireturn, 1) := by decide +kernel
abbrev b6_earliestStart : ByteArray := prog_8_method_89_code
def y6_earliestStart : MethodName := ⟨"ChannelScheduleModel", "earliestStart", "(IZI)I"⟩
theorem w6_earliestStart : YV y6_earliestStart b6_earliestStart 4 (some .int) 3 := ⟨LW_i 1655 (by decide +kernel) (by decide +kernel), LW_i 1656 (by decide +kernel) (by decide +kernel), LW_i 120 (by decide +kernel) (by decide +kernel), LW_i 1657 (by decide +kernel) (by decide +kernel), by decide +kernel, by decide +kernel⟩
theorem d6_earliestStart_0 : decode b6_earliestStart 0 = .ok (.aload_n 0, 1) := by decide +kernel
theorem d6_earliestStart_1 : decode b6_earliestStart 1 = .ok (.aload_n 0, 1) := by decide +kernel
theorem d6_earliestStart_2 : decode b6_earliestStart 2 = .ok (.iload_n 1, 1) := by decide +kernel
theorem d6_earliestStart_3 : decode b6_earliestStart 3 = .ok (.invokevirtual 268, 3) := by decide +kernel
theorem d6_earliestStart_6 : decode b6_earliestStart 6 = .ok (.ifCond .ne 7, 3) := by decide +kernel
theorem d6_earliestStart_9 : decode b6_earliestStart 9 = .ok (.iconst 1, 1) := by decide +kernel
theorem d6_earliestStart_10 : decode b6_earliestStart 10 = .ok (.goto 4, 3) := by decide +kernel
theorem d6_earliestStart_13 : decode b6_earliestStart 13 = .ok (.iconst 0, 1) := by decide +kernel
theorem d6_earliestStart_14 : decode b6_earliestStart 14 = .ok (.iload_n 3, 1) := by decide +kernel
theorem d6_earliestStart_15 : decode b6_earliestStart 15 = .ok (.iconst 0, 1) := by decide +kernel
theorem d6_earliestStart_16 : decode b6_earliestStart 16 = .ok (.sipush 999, 3) := by decide +kernel
theorem d6_earliestStart_19 : decode b6_earliestStart 19 = .ok (.invokestatic 75, 3) := by decide +kernel
theorem d6_earliestStart_22 : decode b6_earliestStart 22 = .ok (.ifCond .ne 7, 3) := by decide +kernel
theorem d6_earliestStart_25 : decode b6_earliestStart 25 = .ok (.iconst 1, 1) := by decide +kernel
theorem d6_earliestStart_26 : decode b6_earliestStart 26 = .ok (.goto 4, 3) := by decide +kernel
theorem d6_earliestStart_29 : decode b6_earliestStart 29 = .ok (.iconst 0, 1) := by decide +kernel
theorem d6_earliestStart_30 : decode b6_earliestStart 30 = .ok (.iconst 0, 1) := by decide +kernel
theorem d6_earliestStart_31 : decode b6_earliestStart 31 = .ok (.invokevirtual 148, 3) := by decide +kernel
theorem d6_earliestStart_34 : decode b6_earliestStart 34 = .ok (.ifCond .eq 5, 3) := by decide +kernel
theorem d6_earliestStart_37 : decode b6_earliestStart 37 = .ok (.iconst 0, 1) := by decide +kernel
theorem d6_earliestStart_38 : decode b6_earliestStart 38 = .ok (.ireturn, 1) := by decide +kernel
theorem d6_earliestStart_39 : decode b6_earliestStart 39 = .ok (.aload_n 0, 1) := by decide +kernel
theorem d6_earliestStart_40 : decode b6_earliestStart 40 = .ok (.iload_n 1, 1) := by decide +kernel
theorem d6_earliestStart_41 : decode b6_earliestStart 41 = .ok (.iload_n 2, 1) := by decide +kernel
theorem d6_earliestStart_42 : decode b6_earliestStart 42 = .ok (.ifCond .eq 7, 3) := by decide +kernel
theorem d6_earliestStart_45 : decode b6_earliestStart 45 = .ok (.iconst 1, 1) := by decide +kernel
theorem d6_earliestStart_46 : decode b6_earliestStart 46 = .ok (.goto 4, 3) := by decide +kernel
theorem d6_earliestStart_49 : decode b6_earliestStart 49 = .ok (.iconst 0, 1) := by decide +kernel
theorem d6_earliestStart_50 : decode b6_earliestStart 50 = .ok (.iload_n 3, 1) := by decide +kernel
theorem d6_earliestStart_51 : decode b6_earliestStart 51 = .ok (.sipush 999, 3) := by decide +kernel
theorem d6_earliestStart_54 : decode b6_earliestStart 54 = .ok (.iconst (-1), 1) := by decide +kernel
theorem d6_earliestStart_55 : decode b6_earliestStart 55 = .ok (.invokevirtual 110, 3) := by decide +kernel
theorem d6_earliestStart_58 : decode b6_earliestStart 58 = .ok (.ireturn, 1) := by decide +kernel
abbrev b6_latestStart : ByteArray := prog_8_method_90_code
def y6_latestStart : MethodName := ⟨"ChannelScheduleModel", "latestStart", "(IZI)I"⟩
theorem w6_latestStart : YV y6_latestStart b6_latestStart 6 (some .int) 3 := ⟨LW_i 1659 (by decide +kernel) (by decide +kernel), LW_i 1660 (by decide +kernel) (by decide +kernel), LW_i 120 (by decide +kernel) (by decide +kernel), LW_i 1661 (by decide +kernel) (by decide +kernel), by decide +kernel, by decide +kernel⟩
theorem d6_latestStart_0 : decode b6_latestStart 0 = .ok (.aload_n 0, 1) := by decide +kernel
theorem d6_latestStart_1 : decode b6_latestStart 1 = .ok (.aload_n 0, 1) := by decide +kernel
theorem d6_latestStart_2 : decode b6_latestStart 2 = .ok (.iload_n 1, 1) := by decide +kernel
theorem d6_latestStart_3 : decode b6_latestStart 3 = .ok (.invokevirtual 268, 3) := by decide +kernel
theorem d6_latestStart_6 : decode b6_latestStart 6 = .ok (.ifCond .ne 7, 3) := by decide +kernel
theorem d6_latestStart_9 : decode b6_latestStart 9 = .ok (.iconst 1, 1) := by decide +kernel
theorem d6_latestStart_10 : decode b6_latestStart 10 = .ok (.goto 4, 3) := by decide +kernel
theorem d6_latestStart_13 : decode b6_latestStart 13 = .ok (.iconst 0, 1) := by decide +kernel
theorem d6_latestStart_14 : decode b6_latestStart 14 = .ok (.iload_n 3, 1) := by decide +kernel
theorem d6_latestStart_15 : decode b6_latestStart 15 = .ok (.iconst 0, 1) := by decide +kernel
theorem d6_latestStart_16 : decode b6_latestStart 16 = .ok (.sipush 1200, 3) := by decide +kernel
theorem d6_latestStart_19 : decode b6_latestStart 19 = .ok (.invokestatic 75, 3) := by decide +kernel
theorem d6_latestStart_22 : decode b6_latestStart 22 = .ok (.ifCond .ne 7, 3) := by decide +kernel
theorem d6_latestStart_25 : decode b6_latestStart 25 = .ok (.iconst 1, 1) := by decide +kernel
theorem d6_latestStart_26 : decode b6_latestStart 26 = .ok (.goto 4, 3) := by decide +kernel
theorem d6_latestStart_29 : decode b6_latestStart 29 = .ok (.iconst 0, 1) := by decide +kernel
theorem d6_latestStart_30 : decode b6_latestStart 30 = .ok (.iconst 0, 1) := by decide +kernel
theorem d6_latestStart_31 : decode b6_latestStart 31 = .ok (.invokevirtual 148, 3) := by decide +kernel
theorem d6_latestStart_34 : decode b6_latestStart 34 = .ok (.ifCond .eq 5, 3) := by decide +kernel
theorem d6_latestStart_37 : decode b6_latestStart 37 = .ok (.iconst 0, 1) := by decide +kernel
theorem d6_latestStart_38 : decode b6_latestStart 38 = .ok (.ireturn, 1) := by decide +kernel
theorem d6_latestStart_39 : decode b6_latestStart 39 = .ok (.iload_n 3, 1) := by decide +kernel
theorem d6_latestStart_40 : decode b6_latestStart 40 = .ok (.aload_n 0, 1) := by decide +kernel
theorem d6_latestStart_41 : decode b6_latestStart 41 = .ok (.iload_n 1, 1) := by decide +kernel
theorem d6_latestStart_42 : decode b6_latestStart 42 = .ok (.invokevirtual 94, 3) := by decide +kernel
theorem d6_latestStart_45 : decode b6_latestStart 45 = .ok (.isub, 1) := by decide +kernel
theorem d6_latestStart_46 : decode b6_latestStart 46 = .ok (.istore 4, 2) := by decide +kernel
theorem d6_latestStart_48 : decode b6_latestStart 48 = .ok (.iload 4, 2) := by decide +kernel
theorem d6_latestStart_50 : decode b6_latestStart 50 = .ok (.sipush 999, 3) := by decide +kernel
theorem d6_latestStart_53 : decode b6_latestStart 53 = .ok (.if_icmp .ge 8, 3) := by decide +kernel
theorem d6_latestStart_56 : decode b6_latestStart 56 = .ok (.iload 4, 2) := by decide +kernel
theorem d6_latestStart_58 : decode b6_latestStart 58 = .ok (.goto 6, 3) := by decide +kernel
theorem d6_latestStart_61 : decode b6_latestStart 61 = .ok (.sipush 999, 3) := by decide +kernel
theorem d6_latestStart_64 : decode b6_latestStart 64 = .ok (.istore 5, 2) := by decide +kernel
theorem d6_latestStart_66 : decode b6_latestStart 66 = .ok (.iload 5, 2) := by decide +kernel
theorem d6_latestStart_68 : decode b6_latestStart 68 = .ok (.ifCond .lt 33, 3) := by decide +kernel
theorem d6_latestStart_71 : decode b6_latestStart 71 = .ok (.aload_n 0, 1) := by decide +kernel
theorem d6_latestStart_72 : decode b6_latestStart 72 = .ok (.iload_n 1, 1) := by decide +kernel
theorem d6_latestStart_73 : decode b6_latestStart 73 = .ok (.iload_n 2, 1) := by decide +kernel
theorem d6_latestStart_74 : decode b6_latestStart 74 = .ok (.ifCond .eq 7, 3) := by decide +kernel
theorem d6_latestStart_77 : decode b6_latestStart 77 = .ok (.iconst 1, 1) := by decide +kernel
theorem d6_latestStart_78 : decode b6_latestStart 78 = .ok (.goto 4, 3) := by decide +kernel
theorem d6_latestStart_81 : decode b6_latestStart 81 = .ok (.iconst 0, 1) := by decide +kernel
theorem d6_latestStart_82 : decode b6_latestStart 82 = .ok (.iload 5, 2) := by decide +kernel
theorem d6_latestStart_84 : decode b6_latestStart 84 = .ok (.iconst (-1), 1) := by decide +kernel
theorem d6_latestStart_85 : decode b6_latestStart 85 = .ok (.invokevirtual 102, 3) := by decide +kernel
theorem d6_latestStart_88 : decode b6_latestStart 88 = .ok (.iconst (-1), 1) := by decide +kernel
theorem d6_latestStart_89 : decode b6_latestStart 89 = .ok (.if_icmp .ne 6, 3) := by decide +kernel
theorem d6_latestStart_92 : decode b6_latestStart 92 = .ok (.iload 5, 2) := by decide +kernel
theorem d6_latestStart_94 : decode b6_latestStart 94 = .ok (.ireturn, 1) := by decide +kernel
theorem d6_latestStart_95 : decode b6_latestStart 95 = .ok (.iinc 5 (-1), 3) := by decide +kernel
theorem d6_latestStart_98 : decode b6_latestStart 98 = .ok (.goto (-32), 3) := by decide +kernel
theorem d6_latestStart_101 : decode b6_latestStart 101 = .ok (.iconst (-1), 1) := by decide +kernel
theorem d6_latestStart_102 : decode b6_latestStart 102 = .ok (.ireturn, 1) := by decide +kernel
abbrev b6_bestCancellation : ByteArray := prog_8_method_91_code
def y6_bestCancellation : MethodName := ⟨"ChannelScheduleModel", "bestCancellation", "(IZI)I"⟩
theorem w6_bestCancellation : YV y6_bestCancellation b6_bestCancellation 9 (some .int) 3 := ⟨LW_i 1663 (by decide +kernel) (by decide +kernel), LW_i 1664 (by decide +kernel) (by decide +kernel), LW_i 120 (by decide +kernel) (by decide +kernel), LW_i 1665 (by decide +kernel) (by decide +kernel), by decide +kernel, by decide +kernel⟩
theorem d6_bestCancellation_0 : decode b6_bestCancellation 0 = .ok (.aload_n 0, 1) := by decide +kernel
theorem d6_bestCancellation_1 : decode b6_bestCancellation 1 = .ok (.iload_n 1, 1) := by decide +kernel
theorem d6_bestCancellation_2 : decode b6_bestCancellation 2 = .ok (.invokevirtual 268, 3) := by decide +kernel
theorem d6_bestCancellation_5 : decode b6_bestCancellation 5 = .ok (.ifCond .eq 18, 3) := by decide +kernel
theorem d6_bestCancellation_8 : decode b6_bestCancellation 8 = .ok (.iload_n 3, 1) := by decide +kernel
theorem d6_bestCancellation_9 : decode b6_bestCancellation 9 = .ok (.iconst 0, 1) := by decide +kernel
theorem d6_bestCancellation_10 : decode b6_bestCancellation 10 = .ok (.sipush 999, 3) := by decide +kernel
theorem d6_bestCancellation_13 : decode b6_bestCancellation 13 = .ok (.invokestatic 75, 3) := by decide +kernel
theorem d6_bestCancellation_16 : decode b6_bestCancellation 16 = .ok (.ifCond .eq 7, 3) := by decide +kernel
theorem d6_bestCancellation_19 : decode b6_bestCancellation 19 = .ok (.iconst 1, 1) := by decide +kernel
theorem d6_bestCancellation_20 : decode b6_bestCancellation 20 = .ok (.goto 4, 3) := by decide +kernel
theorem d6_bestCancellation_23 : decode b6_bestCancellation 23 = .ok (.iconst 0, 1) := by decide +kernel
theorem d6_bestCancellation_24 : decode b6_bestCancellation 24 = .ok (.istore 4, 2) := by decide +kernel
theorem d6_bestCancellation_26 : decode b6_bestCancellation 26 = .ok (.aload_n 0, 1) := by decide +kernel
theorem d6_bestCancellation_27 : decode b6_bestCancellation 27 = .ok (.aload_n 0, 1) := by decide +kernel
theorem d6_bestCancellation_28 : decode b6_bestCancellation 28 = .ok (.iload_n 1, 1) := by decide +kernel
theorem d6_bestCancellation_29 : decode b6_bestCancellation 29 = .ok (.invokevirtual 268, 3) := by decide +kernel
theorem d6_bestCancellation_32 : decode b6_bestCancellation 32 = .ok (.ifCond .ne 7, 3) := by decide +kernel
theorem d6_bestCancellation_35 : decode b6_bestCancellation 35 = .ok (.iconst 1, 1) := by decide +kernel
theorem d6_bestCancellation_36 : decode b6_bestCancellation 36 = .ok (.goto 4, 3) := by decide +kernel
theorem d6_bestCancellation_39 : decode b6_bestCancellation 39 = .ok (.iconst 0, 1) := by decide +kernel
theorem d6_bestCancellation_40 : decode b6_bestCancellation 40 = .ok (.iload_n 3, 1) := by decide +kernel
theorem d6_bestCancellation_41 : decode b6_bestCancellation 41 = .ok (.iconst 0, 1) := by decide +kernel
theorem d6_bestCancellation_42 : decode b6_bestCancellation 42 = .ok (.sipush 999, 3) := by decide +kernel
theorem d6_bestCancellation_45 : decode b6_bestCancellation 45 = .ok (.invokestatic 75, 3) := by decide +kernel
theorem d6_bestCancellation_48 : decode b6_bestCancellation 48 = .ok (.ifCond .ne 7, 3) := by decide +kernel
theorem d6_bestCancellation_51 : decode b6_bestCancellation 51 = .ok (.iconst 1, 1) := by decide +kernel
theorem d6_bestCancellation_52 : decode b6_bestCancellation 52 = .ok (.goto 4, 3) := by decide +kernel
theorem d6_bestCancellation_55 : decode b6_bestCancellation 55 = .ok (.iconst 0, 1) := by decide +kernel
theorem d6_bestCancellation_56 : decode b6_bestCancellation 56 = .ok (.iload 4, 2) := by decide +kernel
theorem d6_bestCancellation_58 : decode b6_bestCancellation 58 = .ok (.ifCond .eq 16, 3) := by decide +kernel
theorem d6_bestCancellation_61 : decode b6_bestCancellation 61 = .ok (.aload_n 0, 1) := by decide +kernel
theorem d6_bestCancellation_62 : decode b6_bestCancellation 62 = .ok (.getfield 13, 3) := by decide +kernel
theorem d6_bestCancellation_65 : decode b6_bestCancellation 65 = .ok (.iconst 5, 1) := by decide +kernel
theorem d6_bestCancellation_66 : decode b6_bestCancellation 66 = .ok (.iaload, 1) := by decide +kernel
theorem d6_bestCancellation_67 : decode b6_bestCancellation 67 = .ok (.ifCond .ne 7, 3) := by decide +kernel
theorem d6_bestCancellation_70 : decode b6_bestCancellation 70 = .ok (.iconst 1, 1) := by decide +kernel
theorem d6_bestCancellation_71 : decode b6_bestCancellation 71 = .ok (.goto 4, 3) := by decide +kernel
theorem d6_bestCancellation_74 : decode b6_bestCancellation 74 = .ok (.iconst 0, 1) := by decide +kernel
theorem d6_bestCancellation_75 : decode b6_bestCancellation 75 = .ok (.invokevirtual 148, 3) := by decide +kernel
theorem d6_bestCancellation_78 : decode b6_bestCancellation 78 = .ok (.ifCond .eq 5, 3) := by decide +kernel
theorem d6_bestCancellation_81 : decode b6_bestCancellation 81 = .ok (.iconst 0, 1) := by decide +kernel
theorem d6_bestCancellation_82 : decode b6_bestCancellation 82 = .ok (.ireturn, 1) := by decide +kernel
theorem d6_bestCancellation_83 : decode b6_bestCancellation 83 = .ok (.iconst (-1), 1) := by decide +kernel
theorem d6_bestCancellation_84 : decode b6_bestCancellation 84 = .ok (.istore 5, 2) := by decide +kernel
theorem d6_bestCancellation_86 : decode b6_bestCancellation 86 = .ok (.iconst 0, 1) := by decide +kernel
theorem d6_bestCancellation_87 : decode b6_bestCancellation 87 = .ok (.istore 6, 2) := by decide +kernel
theorem d6_bestCancellation_89 : decode b6_bestCancellation 89 = .ok (.iconst 0, 1) := by decide +kernel
theorem d6_bestCancellation_90 : decode b6_bestCancellation 90 = .ok (.istore 7, 2) := by decide +kernel
theorem d6_bestCancellation_92 : decode b6_bestCancellation 92 = .ok (.iload 7, 2) := by decide +kernel
theorem d6_bestCancellation_94 : decode b6_bestCancellation 94 = .ok (.aload_n 0, 1) := by decide +kernel
theorem d6_bestCancellation_95 : decode b6_bestCancellation 95 = .ok (.getfield 13, 3) := by decide +kernel
theorem d6_bestCancellation_98 : decode b6_bestCancellation 98 = .ok (.iconst 5, 1) := by decide +kernel
theorem d6_bestCancellation_99 : decode b6_bestCancellation 99 = .ok (.iaload, 1) := by decide +kernel
theorem d6_bestCancellation_100 : decode b6_bestCancellation 100 = .ok (.if_icmp .ge 66, 3) := by decide +kernel
theorem d6_bestCancellation_103 : decode b6_bestCancellation 103 = .ok (.aload_n 0, 1) := by decide +kernel
theorem d6_bestCancellation_104 : decode b6_bestCancellation 104 = .ok (.iload_n 1, 1) := by decide +kernel
theorem d6_bestCancellation_105 : decode b6_bestCancellation 105 = .ok (.iload_n 2, 1) := by decide +kernel
theorem d6_bestCancellation_106 : decode b6_bestCancellation 106 = .ok (.ifCond .eq 7, 3) := by decide +kernel
theorem d6_bestCancellation_109 : decode b6_bestCancellation 109 = .ok (.iconst 1, 1) := by decide +kernel
theorem d6_bestCancellation_110 : decode b6_bestCancellation 110 = .ok (.goto 4, 3) := by decide +kernel
theorem d6_bestCancellation_113 : decode b6_bestCancellation 113 = .ok (.iconst 0, 1) := by decide +kernel
theorem d6_bestCancellation_114 : decode b6_bestCancellation 114 = .ok (.iload_n 3, 1) := by decide +kernel
theorem d6_bestCancellation_115 : decode b6_bestCancellation 115 = .ok (.sipush 999, 3) := by decide +kernel
theorem d6_bestCancellation_118 : decode b6_bestCancellation 118 = .ok (.iload 7, 2) := by decide +kernel
theorem d6_bestCancellation_120 : decode b6_bestCancellation 120 = .ok (.invokevirtual 110, 3) := by decide +kernel
theorem d6_bestCancellation_123 : decode b6_bestCancellation 123 = .ok (.istore 8, 2) := by decide +kernel
theorem d6_bestCancellation_125 : decode b6_bestCancellation 125 = .ok (.iload 8, 2) := by decide +kernel
theorem d6_bestCancellation_127 : decode b6_bestCancellation 127 = .ok (.iconst (-1), 1) := by decide +kernel
theorem d6_bestCancellation_128 : decode b6_bestCancellation 128 = .ok (.if_icmp .ne 8, 3) := by decide +kernel
theorem d6_bestCancellation_131 : decode b6_bestCancellation 131 = .ok (.sipush 1000, 3) := by decide +kernel
theorem d6_bestCancellation_134 : decode b6_bestCancellation 134 = .ok (.istore 8, 2) := by decide +kernel
theorem d6_bestCancellation_136 : decode b6_bestCancellation 136 = .ok (.iload 5, 2) := by decide +kernel
theorem d6_bestCancellation_138 : decode b6_bestCancellation 138 = .ok (.iconst (-1), 1) := by decide +kernel
theorem d6_bestCancellation_139 : decode b6_bestCancellation 139 = .ok (.if_icmp .eq 13, 3) := by decide +kernel
theorem d6_bestCancellation_142 : decode b6_bestCancellation 142 = .ok (.iload 8, 2) := by decide +kernel
theorem d6_bestCancellation_144 : decode b6_bestCancellation 144 = .ok (.iload 6, 2) := by decide +kernel
theorem d6_bestCancellation_146 : decode b6_bestCancellation 146 = .ok (.if_icmp .lt 6, 3) := by decide +kernel
theorem d6_bestCancellation_149 : decode b6_bestCancellation 149 = .ok (.goto 11, 3) := by decide +kernel
theorem d6_bestCancellation_152 : decode b6_bestCancellation 152 = .ok (.iload 7, 2) := by decide +kernel
theorem d6_bestCancellation_154 : decode b6_bestCancellation 154 = .ok (.istore 5, 2) := by decide +kernel
theorem d6_bestCancellation_156 : decode b6_bestCancellation 156 = .ok (.iload 8, 2) := by decide +kernel
theorem d6_bestCancellation_158 : decode b6_bestCancellation 158 = .ok (.istore 6, 2) := by decide +kernel
theorem d6_bestCancellation_160 : decode b6_bestCancellation 160 = .ok (.iinc 7 1, 3) := by decide +kernel
theorem d6_bestCancellation_163 : decode b6_bestCancellation 163 = .ok (.goto (-71), 3) := by decide +kernel
theorem d6_bestCancellation_166 : decode b6_bestCancellation 166 = .ok (.iload 5, 2) := by decide +kernel
theorem d6_bestCancellation_168 : decode b6_bestCancellation 168 = .ok (.ireturn, 1) := by decide +kernel
abbrev b6_directionSwitches : ByteArray := prog_8_method_92_code
def y6_directionSwitches : MethodName := ⟨"ChannelScheduleModel", "directionSwitches", "()I"⟩
theorem w6_directionSwitches : YV y6_directionSwitches b6_directionSwitches 3 (some .int) 0 := ⟨LW_i 1667 (by decide +kernel) (by decide +kernel), LW_i 1668 (by decide +kernel) (by decide +kernel), LW_i 120 (by decide +kernel) (by decide +kernel), LW_i 1669 (by decide +kernel) (by decide +kernel), by decide +kernel, by decide +kernel⟩
theorem d6_directionSwitches_0 : decode b6_directionSwitches 0 = .ok (.aload_n 0, 1) := by decide +kernel
theorem d6_directionSwitches_1 : decode b6_directionSwitches 1 = .ok (.iconst 0, 1) := by decide +kernel
theorem d6_directionSwitches_2 : decode b6_directionSwitches 2 = .ok (.putfield 1, 3) := by decide +kernel
theorem d6_directionSwitches_5 : decode b6_directionSwitches 5 = .ok (.iconst 0, 1) := by decide +kernel
theorem d6_directionSwitches_6 : decode b6_directionSwitches 6 = .ok (.istore_n 1, 1) := by decide +kernel
theorem d6_directionSwitches_7 : decode b6_directionSwitches 7 = .ok (.iconst 1, 1) := by decide +kernel
theorem d6_directionSwitches_8 : decode b6_directionSwitches 8 = .ok (.istore_n 2, 1) := by decide +kernel
theorem d6_directionSwitches_9 : decode b6_directionSwitches 9 = .ok (.iload_n 2, 1) := by decide +kernel
theorem d6_directionSwitches_10 : decode b6_directionSwitches 10 = .ok (.aload_n 0, 1) := by decide +kernel
theorem d6_directionSwitches_11 : decode b6_directionSwitches 11 = .ok (.getfield 13, 3) := by decide +kernel
theorem d6_directionSwitches_14 : decode b6_directionSwitches 14 = .ok (.iconst 5, 1) := by decide +kernel
theorem d6_directionSwitches_15 : decode b6_directionSwitches 15 = .ok (.iaload, 1) := by decide +kernel
theorem d6_directionSwitches_16 : decode b6_directionSwitches 16 = .ok (.if_icmp .ge 34, 3) := by decide +kernel
theorem d6_directionSwitches_19 : decode b6_directionSwitches 19 = .ok (.iload_n 1, 1) := by decide +kernel
theorem d6_directionSwitches_20 : decode b6_directionSwitches 20 = .ok (.aload_n 0, 1) := by decide +kernel
theorem d6_directionSwitches_21 : decode b6_directionSwitches 21 = .ok (.iload_n 2, 1) := by decide +kernel
theorem d6_directionSwitches_22 : decode b6_directionSwitches 22 = .ok (.iconst 1, 1) := by decide +kernel
theorem d6_directionSwitches_23 : decode b6_directionSwitches 23 = .ok (.invokevirtual 91, 3) := by decide +kernel
theorem d6_directionSwitches_26 : decode b6_directionSwitches 26 = .ok (.aload_n 0, 1) := by decide +kernel
theorem d6_directionSwitches_27 : decode b6_directionSwitches 27 = .ok (.iload_n 2, 1) := by decide +kernel
theorem d6_directionSwitches_28 : decode b6_directionSwitches 28 = .ok (.iconst 1, 1) := by decide +kernel
theorem d6_directionSwitches_29 : decode b6_directionSwitches 29 = .ok (.isub, 1) := by decide +kernel
theorem d6_directionSwitches_30 : decode b6_directionSwitches 30 = .ok (.iconst 1, 1) := by decide +kernel
theorem d6_directionSwitches_31 : decode b6_directionSwitches 31 = .ok (.invokevirtual 91, 3) := by decide +kernel
theorem d6_directionSwitches_34 : decode b6_directionSwitches 34 = .ok (.if_icmp .eq 7, 3) := by decide +kernel
theorem d6_directionSwitches_37 : decode b6_directionSwitches 37 = .ok (.iconst 1, 1) := by decide +kernel
theorem d6_directionSwitches_38 : decode b6_directionSwitches 38 = .ok (.goto 4, 3) := by decide +kernel
theorem d6_directionSwitches_41 : decode b6_directionSwitches 41 = .ok (.iconst 0, 1) := by decide +kernel
theorem d6_directionSwitches_42 : decode b6_directionSwitches 42 = .ok (.iadd, 1) := by decide +kernel
theorem d6_directionSwitches_43 : decode b6_directionSwitches 43 = .ok (.istore_n 1, 1) := by decide +kernel
theorem d6_directionSwitches_44 : decode b6_directionSwitches 44 = .ok (.iinc 2 1, 3) := by decide +kernel
theorem d6_directionSwitches_47 : decode b6_directionSwitches 47 = .ok (.goto (-38), 3) := by decide +kernel
theorem d6_directionSwitches_50 : decode b6_directionSwitches 50 = .ok (.iload_n 1, 1) := by decide +kernel
theorem d6_directionSwitches_51 : decode b6_directionSwitches 51 = .ok (.ireturn, 1) := by decide +kernel
abbrev b6_longestConvoy : ByteArray := prog_8_method_93_code
def y6_longestConvoy : MethodName := ⟨"ChannelScheduleModel", "longestConvoy", "()I"⟩
theorem w6_longestConvoy : YV y6_longestConvoy b6_longestConvoy 4 (some .int) 0 := ⟨LW_i 1671 (by decide +kernel) (by decide +kernel), LW_i 1672 (by decide +kernel) (by decide +kernel), LW_i 120 (by decide +kernel) (by decide +kernel), LW_i 1673 (by decide +kernel) (by decide +kernel), by decide +kernel, by decide +kernel⟩
theorem d6_longestConvoy_0 : decode b6_longestConvoy 0 = .ok (.aload_n 0, 1) := by decide +kernel
theorem d6_longestConvoy_1 : decode b6_longestConvoy 1 = .ok (.iconst 0, 1) := by decide +kernel
theorem d6_longestConvoy_2 : decode b6_longestConvoy 2 = .ok (.putfield 1, 3) := by decide +kernel
theorem d6_longestConvoy_5 : decode b6_longestConvoy 5 = .ok (.iconst 0, 1) := by decide +kernel
theorem d6_longestConvoy_6 : decode b6_longestConvoy 6 = .ok (.istore_n 1, 1) := by decide +kernel
theorem d6_longestConvoy_7 : decode b6_longestConvoy 7 = .ok (.iconst 0, 1) := by decide +kernel
theorem d6_longestConvoy_8 : decode b6_longestConvoy 8 = .ok (.istore_n 2, 1) := by decide +kernel
theorem d6_longestConvoy_9 : decode b6_longestConvoy 9 = .ok (.iconst 0, 1) := by decide +kernel
theorem d6_longestConvoy_10 : decode b6_longestConvoy 10 = .ok (.istore_n 3, 1) := by decide +kernel
theorem d6_longestConvoy_11 : decode b6_longestConvoy 11 = .ok (.iload_n 3, 1) := by decide +kernel
theorem d6_longestConvoy_12 : decode b6_longestConvoy 12 = .ok (.aload_n 0, 1) := by decide +kernel
theorem d6_longestConvoy_13 : decode b6_longestConvoy 13 = .ok (.getfield 13, 3) := by decide +kernel
theorem d6_longestConvoy_16 : decode b6_longestConvoy 16 = .ok (.iconst 5, 1) := by decide +kernel
theorem d6_longestConvoy_17 : decode b6_longestConvoy 17 = .ok (.iaload, 1) := by decide +kernel
theorem d6_longestConvoy_18 : decode b6_longestConvoy 18 = .ok (.if_icmp .ge 45, 3) := by decide +kernel
theorem d6_longestConvoy_21 : decode b6_longestConvoy 21 = .ok (.iload_n 3, 1) := by decide +kernel
theorem d6_longestConvoy_22 : decode b6_longestConvoy 22 = .ok (.ifCond .le 26, 3) := by decide +kernel
theorem d6_longestConvoy_25 : decode b6_longestConvoy 25 = .ok (.aload_n 0, 1) := by decide +kernel
theorem d6_longestConvoy_26 : decode b6_longestConvoy 26 = .ok (.iload_n 3, 1) := by decide +kernel
theorem d6_longestConvoy_27 : decode b6_longestConvoy 27 = .ok (.iconst 1, 1) := by decide +kernel
theorem d6_longestConvoy_28 : decode b6_longestConvoy 28 = .ok (.invokevirtual 91, 3) := by decide +kernel
theorem d6_longestConvoy_31 : decode b6_longestConvoy 31 = .ok (.aload_n 0, 1) := by decide +kernel
theorem d6_longestConvoy_32 : decode b6_longestConvoy 32 = .ok (.iload_n 3, 1) := by decide +kernel
theorem d6_longestConvoy_33 : decode b6_longestConvoy 33 = .ok (.iconst 1, 1) := by decide +kernel
theorem d6_longestConvoy_34 : decode b6_longestConvoy 34 = .ok (.isub, 1) := by decide +kernel
theorem d6_longestConvoy_35 : decode b6_longestConvoy 35 = .ok (.iconst 1, 1) := by decide +kernel
theorem d6_longestConvoy_36 : decode b6_longestConvoy 36 = .ok (.invokevirtual 91, 3) := by decide +kernel
theorem d6_longestConvoy_39 : decode b6_longestConvoy 39 = .ok (.if_icmp .ne 9, 3) := by decide +kernel
theorem d6_longestConvoy_42 : decode b6_longestConvoy 42 = .ok (.iload_n 2, 1) := by decide +kernel
theorem d6_longestConvoy_43 : decode b6_longestConvoy 43 = .ok (.iconst 1, 1) := by decide +kernel
theorem d6_longestConvoy_44 : decode b6_longestConvoy 44 = .ok (.iadd, 1) := by decide +kernel
theorem d6_longestConvoy_45 : decode b6_longestConvoy 45 = .ok (.goto 4, 3) := by decide +kernel
theorem d6_longestConvoy_48 : decode b6_longestConvoy 48 = .ok (.iconst 1, 1) := by decide +kernel
theorem d6_longestConvoy_49 : decode b6_longestConvoy 49 = .ok (.istore_n 2, 1) := by decide +kernel
theorem d6_longestConvoy_50 : decode b6_longestConvoy 50 = .ok (.iload_n 2, 1) := by decide +kernel
theorem d6_longestConvoy_51 : decode b6_longestConvoy 51 = .ok (.iload_n 1, 1) := by decide +kernel
theorem d6_longestConvoy_52 : decode b6_longestConvoy 52 = .ok (.if_icmp .le 5, 3) := by decide +kernel
theorem d6_longestConvoy_55 : decode b6_longestConvoy 55 = .ok (.iload_n 2, 1) := by decide +kernel
theorem d6_longestConvoy_56 : decode b6_longestConvoy 56 = .ok (.istore_n 1, 1) := by decide +kernel
theorem d6_longestConvoy_57 : decode b6_longestConvoy 57 = .ok (.iinc 3 1, 3) := by decide +kernel
theorem d6_longestConvoy_60 : decode b6_longestConvoy 60 = .ok (.goto (-49), 3) := by decide +kernel
theorem d6_longestConvoy_63 : decode b6_longestConvoy 63 = .ok (.iload_n 1, 1) := by decide +kernel
theorem d6_longestConvoy_64 : decode b6_longestConvoy 64 = .ok (.ireturn, 1) := by decide +kernel
abbrev b6_slack : ByteArray := prog_8_method_94_code
def y6_slack : MethodName := ⟨"ChannelScheduleModel", "slack", "(I)I"⟩
theorem w6_slack : YV y6_slack b6_slack 3 (some .int) 1 := ⟨LW_i 1675 (by decide +kernel) (by decide +kernel), LW_i 1676 (by decide +kernel) (by decide +kernel), LW_i 120 (by decide +kernel) (by decide +kernel), LW_i 1677 (by decide +kernel) (by decide +kernel), by decide +kernel, by decide +kernel⟩
theorem d6_slack_0 : decode b6_slack 0 = .ok (.aload_n 0, 1) := by decide +kernel
theorem d6_slack_1 : decode b6_slack 1 = .ok (.aload_n 0, 1) := by decide +kernel
theorem d6_slack_2 : decode b6_slack 2 = .ok (.iload_n 1, 1) := by decide +kernel
theorem d6_slack_3 : decode b6_slack 3 = .ok (.invokevirtual 235, 3) := by decide +kernel
theorem d6_slack_6 : decode b6_slack 6 = .ok (.ifCond .ne 7, 3) := by decide +kernel
theorem d6_slack_9 : decode b6_slack 9 = .ok (.iconst 1, 1) := by decide +kernel
theorem d6_slack_10 : decode b6_slack 10 = .ok (.goto 4, 3) := by decide +kernel
theorem d6_slack_13 : decode b6_slack 13 = .ok (.iconst 0, 1) := by decide +kernel
theorem d6_slack_14 : decode b6_slack 14 = .ok (.iconst 0, 1) := by decide +kernel
theorem d6_slack_15 : decode b6_slack 15 = .ok (.iconst 0, 1) := by decide +kernel
theorem d6_slack_16 : decode b6_slack 16 = .ok (.invokevirtual 148, 3) := by decide +kernel
theorem d6_slack_19 : decode b6_slack 19 = .ok (.ifCond .eq 5, 3) := by decide +kernel
theorem d6_slack_22 : decode b6_slack 22 = .ok (.iconst 0, 1) := by decide +kernel
theorem d6_slack_23 : decode b6_slack 23 = .ok (.ireturn, 1) := by decide +kernel
theorem d6_slack_24 : decode b6_slack 24 = .ok (.iconst 0, 1) := by decide +kernel
theorem d6_slack_25 : decode b6_slack 25 = .ok (.istore_n 2, 1) := by decide +kernel
theorem d6_slack_26 : decode b6_slack 26 = .ok (.aload_n 0, 1) := by decide +kernel
theorem d6_slack_27 : decode b6_slack 27 = .ok (.iload_n 1, 1) := by decide +kernel
theorem d6_slack_28 : decode b6_slack 28 = .ok (.iconst 2, 1) := by decide +kernel
theorem d6_slack_29 : decode b6_slack 29 = .ok (.invokevirtual 91, 3) := by decide +kernel
theorem d6_slack_32 : decode b6_slack 32 = .ok (.iload_n 2, 1) := by decide +kernel
theorem d6_slack_33 : decode b6_slack 33 = .ok (.iadd, 1) := by decide +kernel
theorem d6_slack_34 : decode b6_slack 34 = .ok (.sipush 999, 3) := by decide +kernel
theorem d6_slack_37 : decode b6_slack 37 = .ok (.if_icmp .ge 27, 3) := by decide +kernel
theorem d6_slack_40 : decode b6_slack 40 = .ok (.aload_n 0, 1) := by decide +kernel
theorem d6_slack_41 : decode b6_slack 41 = .ok (.iload_n 1, 1) := by decide +kernel
theorem d6_slack_42 : decode b6_slack 42 = .ok (.aload_n 0, 1) := by decide +kernel
theorem d6_slack_43 : decode b6_slack 43 = .ok (.iload_n 1, 1) := by decide +kernel
theorem d6_slack_44 : decode b6_slack 44 = .ok (.iconst 2, 1) := by decide +kernel
theorem d6_slack_45 : decode b6_slack 45 = .ok (.invokevirtual 91, 3) := by decide +kernel
theorem d6_slack_48 : decode b6_slack 48 = .ok (.iload_n 2, 1) := by decide +kernel
theorem d6_slack_49 : decode b6_slack 49 = .ok (.iadd, 1) := by decide +kernel
theorem d6_slack_50 : decode b6_slack 50 = .ok (.iconst 1, 1) := by decide +kernel
theorem d6_slack_51 : decode b6_slack 51 = .ok (.iadd, 1) := by decide +kernel
theorem d6_slack_52 : decode b6_slack 52 = .ok (.invokevirtual 141, 3) := by decide +kernel
theorem d6_slack_55 : decode b6_slack 55 = .ok (.ifCond .eq 9, 3) := by decide +kernel
theorem d6_slack_58 : decode b6_slack 58 = .ok (.iinc 2 1, 3) := by decide +kernel
theorem d6_slack_61 : decode b6_slack 61 = .ok (.goto (-35), 3) := by decide +kernel
theorem d6_slack_64 : decode b6_slack 64 = .ok (.iload_n 2, 1) := by decide +kernel
theorem d6_slack_65 : decode b6_slack 65 = .ok (.ireturn, 1) := by decide +kernel
abbrev b6_whyNotMovable : ByteArray := prog_8_method_95_code
def y6_whyNotMovable : MethodName := ⟨"ChannelScheduleModel", "whyNotMovable", "(II)I"⟩
theorem w6_whyNotMovable : YV y6_whyNotMovable b6_whyNotMovable 3 (some .int) 2 := ⟨LW_i 1679 (by decide +kernel) (by decide +kernel), LW_i 1680 (by decide +kernel) (by decide +kernel), LW_i 120 (by decide +kernel) (by decide +kernel), LW_i 1681 (by decide +kernel) (by decide +kernel), by decide +kernel, by decide +kernel⟩
theorem d6_whyNotMovable_0 : decode b6_whyNotMovable 0 = .ok (.aload_n 0, 1) := by decide +kernel
theorem d6_whyNotMovable_1 : decode b6_whyNotMovable 1 = .ok (.aload_n 0, 1) := by decide +kernel
theorem d6_whyNotMovable_2 : decode b6_whyNotMovable 2 = .ok (.iload_n 1, 1) := by decide +kernel
theorem d6_whyNotMovable_3 : decode b6_whyNotMovable 3 = .ok (.invokevirtual 235, 3) := by decide +kernel
theorem d6_whyNotMovable_6 : decode b6_whyNotMovable 6 = .ok (.ifCond .ne 7, 3) := by decide +kernel
theorem d6_whyNotMovable_9 : decode b6_whyNotMovable 9 = .ok (.iconst 1, 1) := by decide +kernel
theorem d6_whyNotMovable_10 : decode b6_whyNotMovable 10 = .ok (.goto 4, 3) := by decide +kernel
theorem d6_whyNotMovable_13 : decode b6_whyNotMovable 13 = .ok (.iconst 0, 1) := by decide +kernel
theorem d6_whyNotMovable_14 : decode b6_whyNotMovable 14 = .ok (.iload_n 2, 1) := by decide +kernel
theorem d6_whyNotMovable_15 : decode b6_whyNotMovable 15 = .ok (.iconst 0, 1) := by decide +kernel
theorem d6_whyNotMovable_16 : decode b6_whyNotMovable 16 = .ok (.sipush 999, 3) := by decide +kernel
theorem d6_whyNotMovable_19 : decode b6_whyNotMovable 19 = .ok (.invokestatic 75, 3) := by decide +kernel
theorem d6_whyNotMovable_22 : decode b6_whyNotMovable 22 = .ok (.ifCond .ne 7, 3) := by decide +kernel
theorem d6_whyNotMovable_25 : decode b6_whyNotMovable 25 = .ok (.iconst 1, 1) := by decide +kernel
theorem d6_whyNotMovable_26 : decode b6_whyNotMovable 26 = .ok (.goto 4, 3) := by decide +kernel
theorem d6_whyNotMovable_29 : decode b6_whyNotMovable 29 = .ok (.iconst 0, 1) := by decide +kernel
theorem d6_whyNotMovable_30 : decode b6_whyNotMovable 30 = .ok (.iconst 0, 1) := by decide +kernel
theorem d6_whyNotMovable_31 : decode b6_whyNotMovable 31 = .ok (.invokevirtual 148, 3) := by decide +kernel
theorem d6_whyNotMovable_34 : decode b6_whyNotMovable 34 = .ok (.ifCond .eq 5, 3) := by decide +kernel
theorem d6_whyNotMovable_37 : decode b6_whyNotMovable 37 = .ok (.iconst 0, 1) := by decide +kernel
theorem d6_whyNotMovable_38 : decode b6_whyNotMovable 38 = .ok (.ireturn, 1) := by decide +kernel
theorem d6_whyNotMovable_39 : decode b6_whyNotMovable 39 = .ok (.aload_n 0, 1) := by decide +kernel
theorem d6_whyNotMovable_40 : decode b6_whyNotMovable 40 = .ok (.iload_n 1, 1) := by decide +kernel
theorem d6_whyNotMovable_41 : decode b6_whyNotMovable 41 = .ok (.iload_n 2, 1) := by decide +kernel
theorem d6_whyNotMovable_42 : decode b6_whyNotMovable 42 = .ok (.invokevirtual 241, 3) := by decide +kernel
theorem d6_whyNotMovable_45 : decode b6_whyNotMovable 45 = .ok (.ireturn, 1) := by decide +kernel
abbrev b6_requestCount : ByteArray := prog_8_method_96_code
def y6_requestCount : MethodName := ⟨"ChannelScheduleModel", "requestCount", "()I"⟩
theorem w6_requestCount : YV y6_requestCount b6_requestCount 1 (some .int) 0 := ⟨LW_i 1683 (by decide +kernel) (by decide +kernel), LW_i 1684 (by decide +kernel) (by decide +kernel), LW_i 120 (by decide +kernel) (by decide +kernel), LW_i 1685 (by decide +kernel) (by decide +kernel), by decide +kernel, by decide +kernel⟩
theorem d6_requestCount_0 : decode b6_requestCount 0 = .ok (.aload_n 0, 1) := by decide +kernel
theorem d6_requestCount_1 : decode b6_requestCount 1 = .ok (.aload_n 0, 1) := by decide +kernel
theorem d6_requestCount_2 : decode b6_requestCount 2 = .ok (.getfield 13, 3) := by decide +kernel
theorem d6_requestCount_5 : decode b6_requestCount 5 = .ok (.bipush 6, 2) := by decide +kernel
theorem d6_requestCount_7 : decode b6_requestCount 7 = .ok (.iaload, 1) := by decide +kernel
theorem d6_requestCount_8 : decode b6_requestCount 8 = .ok (.invokevirtual 265, 3) := by decide +kernel
theorem d6_requestCount_11 : decode b6_requestCount 11 = .ok (.ireturn, 1) := by decide +kernel
abbrev b6_requestField : ByteArray := prog_8_method_97_code
def y6_requestField : MethodName := ⟨"ChannelScheduleModel", "requestField", "(II)I"⟩
theorem w6_requestField : YV y6_requestField b6_requestField 3 (some .int) 2 := ⟨LW_i 1692 (by decide +kernel) (by decide +kernel), LW_i 101 (by decide +kernel) (by decide +kernel), LW_i 120 (by decide +kernel) (by decide +kernel), LW_i 1693 (by decide +kernel) (by decide +kernel), by decide +kernel, by decide +kernel⟩
theorem d6_requestField_0 : decode b6_requestField 0 = .ok (.aload_n 0, 1) := by decide +kernel
theorem d6_requestField_1 : decode b6_requestField 1 = .ok (.aload_n 0, 1) := by decide +kernel
theorem d6_requestField_2 : decode b6_requestField 2 = .ok (.iload_n 1, 1) := by decide +kernel
theorem d6_requestField_3 : decode b6_requestField 3 = .ok (.invokevirtual 247, 3) := by decide +kernel
theorem d6_requestField_6 : decode b6_requestField 6 = .ok (.ifCond .ne 7, 3) := by decide +kernel
theorem d6_requestField_9 : decode b6_requestField 9 = .ok (.iconst 1, 1) := by decide +kernel
theorem d6_requestField_10 : decode b6_requestField 10 = .ok (.goto 4, 3) := by decide +kernel
theorem d6_requestField_13 : decode b6_requestField 13 = .ok (.iconst 0, 1) := by decide +kernel
theorem d6_requestField_14 : decode b6_requestField 14 = .ok (.iconst 0, 1) := by decide +kernel
theorem d6_requestField_15 : decode b6_requestField 15 = .ok (.iconst 0, 1) := by decide +kernel
theorem d6_requestField_16 : decode b6_requestField 16 = .ok (.invokevirtual 148, 3) := by decide +kernel
theorem d6_requestField_19 : decode b6_requestField 19 = .ok (.ifCond .eq 5, 3) := by decide +kernel
theorem d6_requestField_22 : decode b6_requestField 22 = .ok (.iconst 0, 1) := by decide +kernel
theorem d6_requestField_23 : decode b6_requestField 23 = .ok (.ireturn, 1) := by decide +kernel
theorem d6_requestField_24 : decode b6_requestField 24 = .ok (.aload_n 0, 1) := by decide +kernel
theorem d6_requestField_25 : decode b6_requestField 25 = .ok (.iload_n 1, 1) := by decide +kernel
theorem d6_requestField_26 : decode b6_requestField 26 = .ok (.iload_n 2, 1) := by decide +kernel
theorem d6_requestField_27 : decode b6_requestField 27 = .ok (.invokevirtual 114, 3) := by decide +kernel
theorem d6_requestField_30 : decode b6_requestField 30 = .ok (.ireturn, 1) := by decide +kernel
abbrev b6_requestedShip : ByteArray := prog_8_method_98_code
def y6_requestedShip : MethodName := ⟨"ChannelScheduleModel", "requestedShip", "(I)I"⟩
theorem w6_requestedShip : YV y6_requestedShip b6_requestedShip 2 (some .int) 1 := ⟨LW_i 1687 (by decide +kernel) (by decide +kernel), LW_i 1688 (by decide +kernel) (by decide +kernel), LW_i 120 (by decide +kernel) (by decide +kernel), LW_i 1689 (by decide +kernel) (by decide +kernel), by decide +kernel, by decide +kernel⟩
theorem d6_requestedShip_0 : decode b6_requestedShip 0 = .ok (.aload_n 0, 1) := by decide +kernel
theorem d6_requestedShip_1 : decode b6_requestedShip 1 = .ok (.iload_n 1, 1) := by decide +kernel
theorem d6_requestedShip_2 : decode b6_requestedShip 2 = .ok (.iconst 0, 1) := by decide +kernel
theorem d6_requestedShip_3 : decode b6_requestedShip 3 = .ok (.invokevirtual 280, 3) := by decide +kernel
theorem d6_requestedShip_6 : decode b6_requestedShip 6 = .ok (.ireturn, 1) := by decide +kernel
abbrev b6_isRequestInbound : ByteArray := prog_8_method_99_code
def y6_isRequestInbound : MethodName := ⟨"ChannelScheduleModel", "isRequestInbound", "(I)Z"⟩
theorem w6_isRequestInbound : YV y6_isRequestInbound b6_isRequestInbound 2 (some .boolean) 1 := ⟨LW_i 1695 (by decide +kernel) (by decide +kernel), LW_i 1696 (by decide +kernel) (by decide +kernel), LW_i 120 (by decide +kernel) (by decide +kernel), LW_i 1697 (by decide +kernel) (by decide +kernel), by decide +kernel, by decide +kernel⟩
theorem d6_isRequestInbound_0 : decode b6_isRequestInbound 0 = .ok (.aload_n 0, 1) := by decide +kernel
theorem d6_isRequestInbound_1 : decode b6_isRequestInbound 1 = .ok (.iload_n 1, 1) := by decide +kernel
theorem d6_isRequestInbound_2 : decode b6_isRequestInbound 2 = .ok (.iconst 1, 1) := by decide +kernel
theorem d6_isRequestInbound_3 : decode b6_isRequestInbound 3 = .ok (.invokevirtual 280, 3) := by decide +kernel
theorem d6_isRequestInbound_6 : decode b6_isRequestInbound 6 = .ok (.iconst 1, 1) := by decide +kernel
theorem d6_isRequestInbound_7 : decode b6_isRequestInbound 7 = .ok (.if_icmp .ne 7, 3) := by decide +kernel
theorem d6_isRequestInbound_10 : decode b6_isRequestInbound 10 = .ok (.iconst 1, 1) := by decide +kernel
theorem d6_isRequestInbound_11 : decode b6_isRequestInbound 11 = .ok (.goto 4, 3) := by decide +kernel
theorem d6_isRequestInbound_14 : decode b6_isRequestInbound 14 = .ok (.iconst 0, 1) := by decide +kernel
theorem d6_isRequestInbound_15 : decode b6_isRequestInbound 15 = .ok (.ireturn, 1) := by decide +kernel
abbrev b6_earliestRequested : ByteArray := prog_8_method_100_code
def y6_earliestRequested : MethodName := ⟨"ChannelScheduleModel", "earliestRequested", "(I)I"⟩
theorem w6_earliestRequested : YV y6_earliestRequested b6_earliestRequested 2 (some .int) 1 := ⟨LW_i 1699 (by decide +kernel) (by decide +kernel), LW_i 1700 (by decide +kernel) (by decide +kernel), LW_i 120 (by decide +kernel) (by decide +kernel), LW_i 1701 (by decide +kernel) (by decide +kernel), by decide +kernel, by decide +kernel⟩
theorem d6_earliestRequested_0 : decode b6_earliestRequested 0 = .ok (.aload_n 0, 1) := by decide +kernel
theorem d6_earliestRequested_1 : decode b6_earliestRequested 1 = .ok (.iload_n 1, 1) := by decide +kernel
theorem d6_earliestRequested_2 : decode b6_earliestRequested 2 = .ok (.iconst 2, 1) := by decide +kernel
theorem d6_earliestRequested_3 : decode b6_earliestRequested 3 = .ok (.invokevirtual 280, 3) := by decide +kernel
theorem d6_earliestRequested_6 : decode b6_earliestRequested 6 = .ok (.ireturn, 1) := by decide +kernel
abbrev b6_latestRequested : ByteArray := prog_8_method_101_code
def y6_latestRequested : MethodName := ⟨"ChannelScheduleModel", "latestRequested", "(I)I"⟩
theorem w6_latestRequested : YV y6_latestRequested b6_latestRequested 2 (some .int) 1 := ⟨LW_i 1703 (by decide +kernel) (by decide +kernel), LW_i 1704 (by decide +kernel) (by decide +kernel), LW_i 120 (by decide +kernel) (by decide +kernel), LW_i 1705 (by decide +kernel) (by decide +kernel), by decide +kernel, by decide +kernel⟩
theorem d6_latestRequested_0 : decode b6_latestRequested 0 = .ok (.aload_n 0, 1) := by decide +kernel
theorem d6_latestRequested_1 : decode b6_latestRequested 1 = .ok (.iload_n 1, 1) := by decide +kernel
theorem d6_latestRequested_2 : decode b6_latestRequested 2 = .ok (.iconst 3, 1) := by decide +kernel
theorem d6_latestRequested_3 : decode b6_latestRequested 3 = .ok (.invokevirtual 280, 3) := by decide +kernel
theorem d6_latestRequested_6 : decode b6_latestRequested 6 = .ok (.ireturn, 1) := by decide +kernel
abbrev b6_startFor : ByteArray := prog_8_method_102_code
def y6_startFor : MethodName := ⟨"ChannelScheduleModel", "startFor", "(I)I"⟩
theorem w6_startFor : YV y6_startFor b6_startFor 2 (some .int) 1 := ⟨LW_i 1712 (by decide +kernel) (by decide +kernel), LW_i 102 (by decide +kernel) (by decide +kernel), LW_i 120 (by decide +kernel) (by decide +kernel), LW_i 1713 (by decide +kernel) (by decide +kernel), by decide +kernel, by decide +kernel⟩
theorem d6_startFor_0 : decode b6_startFor 0 = .ok (.aload_n 0, 1) := by decide +kernel
theorem d6_startFor_1 : decode b6_startFor 1 = .ok (.aload_n 0, 1) := by decide +kernel
theorem d6_startFor_2 : decode b6_startFor 2 = .ok (.iload_n 1, 1) := by decide +kernel
theorem d6_startFor_3 : decode b6_startFor 3 = .ok (.iconst 0, 1) := by decide +kernel
theorem d6_startFor_4 : decode b6_startFor 4 = .ok (.invokevirtual 114, 3) := by decide +kernel
theorem d6_startFor_7 : decode b6_startFor 7 = .ok (.aload_n 0, 1) := by decide +kernel
theorem d6_startFor_8 : decode b6_startFor 8 = .ok (.iload_n 1, 1) := by decide +kernel
theorem d6_startFor_9 : decode b6_startFor 9 = .ok (.iconst 1, 1) := by decide +kernel
theorem d6_startFor_10 : decode b6_startFor 10 = .ok (.invokevirtual 114, 3) := by decide +kernel
theorem d6_startFor_13 : decode b6_startFor 13 = .ok (.aload_n 0, 1) := by decide +kernel
theorem d6_startFor_14 : decode b6_startFor 14 = .ok (.iload_n 1, 1) := by decide +kernel
theorem d6_startFor_15 : decode b6_startFor 15 = .ok (.iconst 2, 1) := by decide +kernel
theorem d6_startFor_16 : decode b6_startFor 16 = .ok (.invokevirtual 114, 3) := by decide +kernel
theorem d6_startFor_19 : decode b6_startFor 19 = .ok (.aload_n 0, 1) := by decide +kernel
theorem d6_startFor_20 : decode b6_startFor 20 = .ok (.iload_n 1, 1) := by decide +kernel
theorem d6_startFor_21 : decode b6_startFor 21 = .ok (.iconst 3, 1) := by decide +kernel
theorem d6_startFor_22 : decode b6_startFor 22 = .ok (.invokevirtual 114, 3) := by decide +kernel
theorem d6_startFor_25 : decode b6_startFor 25 = .ok (.invokevirtual 117, 3) := by decide +kernel
theorem d6_startFor_28 : decode b6_startFor 28 = .ok (.ireturn, 1) := by decide +kernel
abbrev b6_feasibleStart : ByteArray := prog_8_method_103_code
def y6_feasibleStart : MethodName := ⟨"ChannelScheduleModel", "feasibleStart", "(I)I"⟩
theorem w6_feasibleStart : YV y6_feasibleStart b6_feasibleStart 2 (some .int) 1 := ⟨LW_i 1707 (by decide +kernel) (by decide +kernel), LW_i 1708 (by decide +kernel) (by decide +kernel), LW_i 120 (by decide +kernel) (by decide +kernel), LW_i 1709 (by decide +kernel) (by decide +kernel), by decide +kernel, by decide +kernel⟩
theorem d6_feasibleStart_0 : decode b6_feasibleStart 0 = .ok (.aload_n 0, 1) := by decide +kernel
theorem d6_feasibleStart_1 : decode b6_feasibleStart 1 = .ok (.aload_n 0, 1) := by decide +kernel
theorem d6_feasibleStart_2 : decode b6_feasibleStart 2 = .ok (.iload_n 1, 1) := by decide +kernel
theorem d6_feasibleStart_3 : decode b6_feasibleStart 3 = .ok (.invokevirtual 247, 3) := by decide +kernel
theorem d6_feasibleStart_6 : decode b6_feasibleStart 6 = .ok (.ifCond .ne 7, 3) := by decide +kernel
theorem d6_feasibleStart_9 : decode b6_feasibleStart 9 = .ok (.iconst 1, 1) := by decide +kernel
theorem d6_feasibleStart_10 : decode b6_feasibleStart 10 = .ok (.goto 4, 3) := by decide +kernel
theorem d6_feasibleStart_13 : decode b6_feasibleStart 13 = .ok (.iconst 0, 1) := by decide +kernel
theorem d6_feasibleStart_14 : decode b6_feasibleStart 14 = .ok (.iconst 0, 1) := by decide +kernel
theorem d6_feasibleStart_15 : decode b6_feasibleStart 15 = .ok (.iconst 0, 1) := by decide +kernel
theorem d6_feasibleStart_16 : decode b6_feasibleStart 16 = .ok (.invokevirtual 148, 3) := by decide +kernel
theorem d6_feasibleStart_19 : decode b6_feasibleStart 19 = .ok (.ifCond .eq 5, 3) := by decide +kernel
theorem d6_feasibleStart_22 : decode b6_feasibleStart 22 = .ok (.iconst 0, 1) := by decide +kernel
theorem d6_feasibleStart_23 : decode b6_feasibleStart 23 = .ok (.ireturn, 1) := by decide +kernel
theorem d6_feasibleStart_24 : decode b6_feasibleStart 24 = .ok (.aload_n 0, 1) := by decide +kernel
theorem d6_feasibleStart_25 : decode b6_feasibleStart 25 = .ok (.iload_n 1, 1) := by decide +kernel
theorem d6_feasibleStart_26 : decode b6_feasibleStart 26 = .ok (.invokevirtual 283, 3) := by decide +kernel
theorem d6_feasibleStart_29 : decode b6_feasibleStart 29 = .ok (.ireturn, 1) := by decide +kernel
abbrev b6_waitingWeight : ByteArray := prog_8_method_104_code
def y6_waitingWeight : MethodName := ⟨"ChannelScheduleModel", "waitingWeight", "()I"⟩
theorem w6_waitingWeight : YV y6_waitingWeight b6_waitingWeight 3 (some .int) 0 := ⟨LW_i 1715 (by decide +kernel) (by decide +kernel), LW_i 1716 (by decide +kernel) (by decide +kernel), LW_i 120 (by decide +kernel) (by decide +kernel), LW_i 1717 (by decide +kernel) (by decide +kernel), by decide +kernel, by decide +kernel⟩
theorem d6_waitingWeight_0 : decode b6_waitingWeight 0 = .ok (.aload_n 0, 1) := by decide +kernel
theorem d6_waitingWeight_1 : decode b6_waitingWeight 1 = .ok (.iconst 0, 1) := by decide +kernel
theorem d6_waitingWeight_2 : decode b6_waitingWeight 2 = .ok (.putfield 1, 3) := by decide +kernel
theorem d6_waitingWeight_5 : decode b6_waitingWeight 5 = .ok (.iconst 0, 1) := by decide +kernel
theorem d6_waitingWeight_6 : decode b6_waitingWeight 6 = .ok (.istore_n 1, 1) := by decide +kernel
theorem d6_waitingWeight_7 : decode b6_waitingWeight 7 = .ok (.iconst 0, 1) := by decide +kernel
theorem d6_waitingWeight_8 : decode b6_waitingWeight 8 = .ok (.istore_n 2, 1) := by decide +kernel
theorem d6_waitingWeight_9 : decode b6_waitingWeight 9 = .ok (.iload_n 2, 1) := by decide +kernel
theorem d6_waitingWeight_10 : decode b6_waitingWeight 10 = .ok (.aload_n 0, 1) := by decide +kernel
theorem d6_waitingWeight_11 : decode b6_waitingWeight 11 = .ok (.getfield 13, 3) := by decide +kernel
theorem d6_waitingWeight_14 : decode b6_waitingWeight 14 = .ok (.bipush 6, 2) := by decide +kernel
theorem d6_waitingWeight_16 : decode b6_waitingWeight 16 = .ok (.iaload, 1) := by decide +kernel
theorem d6_waitingWeight_17 : decode b6_waitingWeight 17 = .ok (.if_icmp .ge 24, 3) := by decide +kernel
theorem d6_waitingWeight_20 : decode b6_waitingWeight 20 = .ok (.iload_n 1, 1) := by decide +kernel
theorem d6_waitingWeight_21 : decode b6_waitingWeight 21 = .ok (.aload_n 0, 1) := by decide +kernel
theorem d6_waitingWeight_22 : decode b6_waitingWeight 22 = .ok (.aload_n 0, 1) := by decide +kernel
theorem d6_waitingWeight_23 : decode b6_waitingWeight 23 = .ok (.iload_n 2, 1) := by decide +kernel
theorem d6_waitingWeight_24 : decode b6_waitingWeight 24 = .ok (.iconst 0, 1) := by decide +kernel
theorem d6_waitingWeight_25 : decode b6_waitingWeight 25 = .ok (.invokevirtual 114, 3) := by decide +kernel
theorem d6_waitingWeight_28 : decode b6_waitingWeight 28 = .ok (.bipush 9, 2) := by decide +kernel
theorem d6_waitingWeight_30 : decode b6_waitingWeight 30 = .ok (.invokevirtual 83, 3) := by decide +kernel
theorem d6_waitingWeight_33 : decode b6_waitingWeight 33 = .ok (.iadd, 1) := by decide +kernel
theorem d6_waitingWeight_34 : decode b6_waitingWeight 34 = .ok (.istore_n 1, 1) := by decide +kernel
theorem d6_waitingWeight_35 : decode b6_waitingWeight 35 = .ok (.iinc 2 1, 3) := by decide +kernel
theorem d6_waitingWeight_38 : decode b6_waitingWeight 38 = .ok (.goto (-29), 3) := by decide +kernel
theorem d6_waitingWeight_41 : decode b6_waitingWeight 41 = .ok (.iload_n 1, 1) := by decide +kernel
theorem d6_waitingWeight_42 : decode b6_waitingWeight 42 = .ok (.ireturn, 1) := by decide +kernel
abbrev b6_whyNotFeasible : ByteArray := prog_8_method_105_code
def y6_whyNotFeasible : MethodName := ⟨"ChannelScheduleModel", "whyNotFeasible", "(I)I"⟩
theorem w6_whyNotFeasible : YV y6_whyNotFeasible b6_whyNotFeasible 2 (some .int) 1 := ⟨LW_i 1719 (by decide +kernel) (by decide +kernel), LW_i 1720 (by decide +kernel) (by decide +kernel), LW_i 120 (by decide +kernel) (by decide +kernel), LW_i 1721 (by decide +kernel) (by decide +kernel), by decide +kernel, by decide +kernel⟩
theorem d6_whyNotFeasible_0 : decode b6_whyNotFeasible 0 = .ok (.aload_n 0, 1) := by decide +kernel
theorem d6_whyNotFeasible_1 : decode b6_whyNotFeasible 1 = .ok (.aload_n 0, 1) := by decide +kernel
theorem d6_whyNotFeasible_2 : decode b6_whyNotFeasible 2 = .ok (.iload_n 1, 1) := by decide +kernel
theorem d6_whyNotFeasible_3 : decode b6_whyNotFeasible 3 = .ok (.invokevirtual 247, 3) := by decide +kernel
theorem d6_whyNotFeasible_6 : decode b6_whyNotFeasible 6 = .ok (.ifCond .ne 7, 3) := by decide +kernel
theorem d6_whyNotFeasible_9 : decode b6_whyNotFeasible 9 = .ok (.iconst 1, 1) := by decide +kernel
theorem d6_whyNotFeasible_10 : decode b6_whyNotFeasible 10 = .ok (.goto 4, 3) := by decide +kernel
theorem d6_whyNotFeasible_13 : decode b6_whyNotFeasible 13 = .ok (.iconst 0, 1) := by decide +kernel
theorem d6_whyNotFeasible_14 : decode b6_whyNotFeasible 14 = .ok (.iconst 0, 1) := by decide +kernel
theorem d6_whyNotFeasible_15 : decode b6_whyNotFeasible 15 = .ok (.iconst 0, 1) := by decide +kernel
theorem d6_whyNotFeasible_16 : decode b6_whyNotFeasible 16 = .ok (.invokevirtual 148, 3) := by decide +kernel
theorem d6_whyNotFeasible_19 : decode b6_whyNotFeasible 19 = .ok (.ifCond .eq 5, 3) := by decide +kernel
theorem d6_whyNotFeasible_22 : decode b6_whyNotFeasible 22 = .ok (.iconst 0, 1) := by decide +kernel
theorem d6_whyNotFeasible_23 : decode b6_whyNotFeasible 23 = .ok (.ireturn, 1) := by decide +kernel
theorem d6_whyNotFeasible_24 : decode b6_whyNotFeasible 24 = .ok (.aload_n 0, 1) := by decide +kernel
theorem d6_whyNotFeasible_25 : decode b6_whyNotFeasible 25 = .ok (.iload_n 1, 1) := by decide +kernel
theorem d6_whyNotFeasible_26 : decode b6_whyNotFeasible 26 = .ok (.iconst 3, 1) := by decide +kernel
theorem d6_whyNotFeasible_27 : decode b6_whyNotFeasible 27 = .ok (.invokevirtual 114, 3) := by decide +kernel
theorem d6_whyNotFeasible_30 : decode b6_whyNotFeasible 30 = .ok (.aload_n 0, 1) := by decide +kernel
theorem d6_whyNotFeasible_31 : decode b6_whyNotFeasible 31 = .ok (.getfield 13, 3) := by decide +kernel
theorem d6_whyNotFeasible_34 : decode b6_whyNotFeasible 34 = .ok (.iconst 3, 1) := by decide +kernel
theorem d6_whyNotFeasible_35 : decode b6_whyNotFeasible 35 = .ok (.iaload, 1) := by decide +kernel
theorem d6_whyNotFeasible_36 : decode b6_whyNotFeasible 36 = .ok (.if_icmp .ge 5, 3) := by decide +kernel
theorem d6_whyNotFeasible_39 : decode b6_whyNotFeasible 39 = .ok (.iconst 1, 1) := by decide +kernel
theorem d6_whyNotFeasible_40 : decode b6_whyNotFeasible 40 = .ok (.ireturn, 1) := by decide +kernel
theorem d6_whyNotFeasible_41 : decode b6_whyNotFeasible 41 = .ok (.aload_n 0, 1) := by decide +kernel
theorem d6_whyNotFeasible_42 : decode b6_whyNotFeasible 42 = .ok (.getfield 13, 3) := by decide +kernel
theorem d6_whyNotFeasible_45 : decode b6_whyNotFeasible 45 = .ok (.iconst 5, 1) := by decide +kernel
theorem d6_whyNotFeasible_46 : decode b6_whyNotFeasible 46 = .ok (.iaload, 1) := by decide +kernel
theorem d6_whyNotFeasible_47 : decode b6_whyNotFeasible 47 = .ok (.bipush 20, 2) := by decide +kernel
theorem d6_whyNotFeasible_49 : decode b6_whyNotFeasible 49 = .ok (.if_icmp .ne 5, 3) := by decide +kernel
theorem d6_whyNotFeasible_52 : decode b6_whyNotFeasible 52 = .ok (.iconst 2, 1) := by decide +kernel
theorem d6_whyNotFeasible_53 : decode b6_whyNotFeasible 53 = .ok (.ireturn, 1) := by decide +kernel
theorem d6_whyNotFeasible_54 : decode b6_whyNotFeasible 54 = .ok (.aload_n 0, 1) := by decide +kernel
theorem d6_whyNotFeasible_55 : decode b6_whyNotFeasible 55 = .ok (.iload_n 1, 1) := by decide +kernel
theorem d6_whyNotFeasible_56 : decode b6_whyNotFeasible 56 = .ok (.invokevirtual 283, 3) := by decide +kernel
theorem d6_whyNotFeasible_59 : decode b6_whyNotFeasible 59 = .ok (.iconst (-1), 1) := by decide +kernel
theorem d6_whyNotFeasible_60 : decode b6_whyNotFeasible 60 = .ok (.if_icmp .eq 7, 3) := by decide +kernel
theorem d6_whyNotFeasible_63 : decode b6_whyNotFeasible 63 = .ok (.iconst 0, 1) := by decide +kernel
theorem d6_whyNotFeasible_64 : decode b6_whyNotFeasible 64 = .ok (.goto 4, 3) := by decide +kernel
theorem d6_whyNotFeasible_67 : decode b6_whyNotFeasible 67 = .ok (.iconst 3, 1) := by decide +kernel
theorem d6_whyNotFeasible_68 : decode b6_whyNotFeasible 68 = .ok (.ireturn, 1) := by decide +kernel
abbrev b6_areCompatible : ByteArray := prog_8_method_106_code
def y6_areCompatible : MethodName := ⟨"ChannelScheduleModel", "areCompatible", "(II)Z"⟩
theorem w6_areCompatible : YV y6_areCompatible b6_areCompatible 7 (some .boolean) 2 := ⟨LW_i 1743 (by decide +kernel) (by decide +kernel), LW_i 106 (by decide +kernel) (by decide +kernel), LW_i 120 (by decide +kernel) (by decide +kernel), LW_i 1744 (by decide +kernel) (by decide +kernel), by decide +kernel, by decide +kernel⟩
theorem d6_areCompatible_0 : decode b6_areCompatible 0 = .ok (.aload_n 0, 1) := by decide +kernel
theorem d6_areCompatible_1 : decode b6_areCompatible 1 = .ok (.iload_n 1, 1) := by decide +kernel
theorem d6_areCompatible_2 : decode b6_areCompatible 2 = .ok (.iconst 2, 1) := by decide +kernel
theorem d6_areCompatible_3 : decode b6_areCompatible 3 = .ok (.invokevirtual 114, 3) := by decide +kernel
theorem d6_areCompatible_6 : decode b6_areCompatible 6 = .ok (.istore_n 3, 1) := by decide +kernel
theorem d6_areCompatible_7 : decode b6_areCompatible 7 = .ok (.aload_n 0, 1) := by decide +kernel
theorem d6_areCompatible_8 : decode b6_areCompatible 8 = .ok (.iload_n 2, 1) := by decide +kernel
theorem d6_areCompatible_9 : decode b6_areCompatible 9 = .ok (.iconst 2, 1) := by decide +kernel
theorem d6_areCompatible_10 : decode b6_areCompatible 10 = .ok (.invokevirtual 114, 3) := by decide +kernel
theorem d6_areCompatible_13 : decode b6_areCompatible 13 = .ok (.istore 4, 2) := by decide +kernel
theorem d6_areCompatible_15 : decode b6_areCompatible 15 = .ok (.iload_n 3, 1) := by decide +kernel
theorem d6_areCompatible_16 : decode b6_areCompatible 16 = .ok (.aload_n 0, 1) := by decide +kernel
theorem d6_areCompatible_17 : decode b6_areCompatible 17 = .ok (.aload_n 0, 1) := by decide +kernel
theorem d6_areCompatible_18 : decode b6_areCompatible 18 = .ok (.iload_n 1, 1) := by decide +kernel
theorem d6_areCompatible_19 : decode b6_areCompatible 19 = .ok (.iconst 0, 1) := by decide +kernel
theorem d6_areCompatible_20 : decode b6_areCompatible 20 = .ok (.invokevirtual 114, 3) := by decide +kernel
theorem d6_areCompatible_23 : decode b6_areCompatible 23 = .ok (.invokevirtual 94, 3) := by decide +kernel
theorem d6_areCompatible_26 : decode b6_areCompatible 26 = .ok (.iadd, 1) := by decide +kernel
theorem d6_areCompatible_27 : decode b6_areCompatible 27 = .ok (.istore 5, 2) := by decide +kernel
theorem d6_areCompatible_29 : decode b6_areCompatible 29 = .ok (.iload 4, 2) := by decide +kernel
theorem d6_areCompatible_31 : decode b6_areCompatible 31 = .ok (.aload_n 0, 1) := by decide +kernel
theorem d6_areCompatible_32 : decode b6_areCompatible 32 = .ok (.aload_n 0, 1) := by decide +kernel
theorem d6_areCompatible_33 : decode b6_areCompatible 33 = .ok (.iload_n 2, 1) := by decide +kernel
theorem d6_areCompatible_34 : decode b6_areCompatible 34 = .ok (.iconst 0, 1) := by decide +kernel
theorem d6_areCompatible_35 : decode b6_areCompatible 35 = .ok (.invokevirtual 114, 3) := by decide +kernel
theorem d6_areCompatible_38 : decode b6_areCompatible 38 = .ok (.invokevirtual 94, 3) := by decide +kernel
theorem d6_areCompatible_41 : decode b6_areCompatible 41 = .ok (.iadd, 1) := by decide +kernel
theorem d6_areCompatible_42 : decode b6_areCompatible 42 = .ok (.istore 6, 2) := by decide +kernel
theorem d6_areCompatible_44 : decode b6_areCompatible 44 = .ok (.aload_n 0, 1) := by decide +kernel
theorem d6_areCompatible_45 : decode b6_areCompatible 45 = .ok (.aload_n 0, 1) := by decide +kernel
theorem d6_areCompatible_46 : decode b6_areCompatible 46 = .ok (.iload_n 1, 1) := by decide +kernel
theorem d6_areCompatible_47 : decode b6_areCompatible 47 = .ok (.iconst 1, 1) := by decide +kernel
theorem d6_areCompatible_48 : decode b6_areCompatible 48 = .ok (.invokevirtual 114, 3) := by decide +kernel
theorem d6_areCompatible_51 : decode b6_areCompatible 51 = .ok (.iload_n 3, 1) := by decide +kernel
theorem d6_areCompatible_52 : decode b6_areCompatible 52 = .ok (.iload 5, 2) := by decide +kernel
theorem d6_areCompatible_54 : decode b6_areCompatible 54 = .ok (.aload_n 0, 1) := by decide +kernel
theorem d6_areCompatible_55 : decode b6_areCompatible 55 = .ok (.iload_n 2, 1) := by decide +kernel
theorem d6_areCompatible_56 : decode b6_areCompatible 56 = .ok (.iconst 1, 1) := by decide +kernel
theorem d6_areCompatible_57 : decode b6_areCompatible 57 = .ok (.invokevirtual 114, 3) := by decide +kernel
theorem d6_areCompatible_60 : decode b6_areCompatible 60 = .ok (.iload 4, 2) := by decide +kernel
theorem d6_areCompatible_62 : decode b6_areCompatible 62 = .ok (.iload 6, 2) := by decide +kernel
theorem d6_areCompatible_64 : decode b6_areCompatible 64 = .ok (.invokevirtual 87, 3) := by decide +kernel
theorem d6_areCompatible_67 : decode b6_areCompatible 67 = .ok (.ifCond .ne 7, 3) := by decide +kernel
theorem d6_areCompatible_70 : decode b6_areCompatible 70 = .ok (.iconst 1, 1) := by decide +kernel
theorem d6_areCompatible_71 : decode b6_areCompatible 71 = .ok (.goto 4, 3) := by decide +kernel
theorem d6_areCompatible_74 : decode b6_areCompatible 74 = .ok (.iconst 0, 1) := by decide +kernel
theorem d6_areCompatible_75 : decode b6_areCompatible 75 = .ok (.ireturn, 1) := by decide +kernel
abbrev b6_isSelection : ByteArray := prog_8_method_107_code
def y6_isSelection : MethodName := ⟨"ChannelScheduleModel", "isSelection", "(I)Z"⟩
theorem w6_isSelection : YV y6_isSelection b6_isSelection 4 (some .boolean) 1 := ⟨LW_i 1739 (by decide +kernel) (by decide +kernel), LW_i 105 (by decide +kernel) (by decide +kernel), LW_i 120 (by decide +kernel) (by decide +kernel), LW_i 1740 (by decide +kernel) (by decide +kernel), by decide +kernel, by decide +kernel⟩
theorem d6_isSelection_0 : decode b6_isSelection 0 = .ok (.iconst 0, 1) := by decide +kernel
theorem d6_isSelection_1 : decode b6_isSelection 1 = .ok (.istore_n 2, 1) := by decide +kernel
theorem d6_isSelection_2 : decode b6_isSelection 2 = .ok (.iload_n 2, 1) := by decide +kernel
theorem d6_isSelection_3 : decode b6_isSelection 3 = .ok (.aload_n 0, 1) := by decide +kernel
theorem d6_isSelection_4 : decode b6_isSelection 4 = .ok (.getfield 13, 3) := by decide +kernel
theorem d6_isSelection_7 : decode b6_isSelection 7 = .ok (.bipush 6, 2) := by decide +kernel
theorem d6_isSelection_9 : decode b6_isSelection 9 = .ok (.iaload, 1) := by decide +kernel
theorem d6_isSelection_10 : decode b6_isSelection 10 = .ok (.if_icmp .ge 90, 3) := by decide +kernel
theorem d6_isSelection_13 : decode b6_isSelection 13 = .ok (.iload_n 1, 1) := by decide +kernel
theorem d6_isSelection_14 : decode b6_isSelection 14 = .ok (.iload_n 2, 1) := by decide +kernel
theorem d6_isSelection_15 : decode b6_isSelection 15 = .ok (.ishr, 1) := by decide +kernel
theorem d6_isSelection_16 : decode b6_isSelection 16 = .ok (.iconst 1, 1) := by decide +kernel
theorem d6_isSelection_17 : decode b6_isSelection 17 = .ok (.iand, 1) := by decide +kernel
theorem d6_isSelection_18 : decode b6_isSelection 18 = .ok (.ifCond .ne 6, 3) := by decide +kernel
theorem d6_isSelection_21 : decode b6_isSelection 21 = .ok (.goto 73, 3) := by decide +kernel
theorem d6_isSelection_24 : decode b6_isSelection 24 = .ok (.aload_n 0, 1) := by decide +kernel
theorem d6_isSelection_25 : decode b6_isSelection 25 = .ok (.aload_n 0, 1) := by decide +kernel
theorem d6_isSelection_26 : decode b6_isSelection 26 = .ok (.iload_n 2, 1) := by decide +kernel
theorem d6_isSelection_27 : decode b6_isSelection 27 = .ok (.iconst 0, 1) := by decide +kernel
theorem d6_isSelection_28 : decode b6_isSelection 28 = .ok (.invokevirtual 114, 3) := by decide +kernel
theorem d6_isSelection_31 : decode b6_isSelection 31 = .ok (.aload_n 0, 1) := by decide +kernel
theorem d6_isSelection_32 : decode b6_isSelection 32 = .ok (.iload_n 2, 1) := by decide +kernel
theorem d6_isSelection_33 : decode b6_isSelection 33 = .ok (.iconst 1, 1) := by decide +kernel
theorem d6_isSelection_34 : decode b6_isSelection 34 = .ok (.invokevirtual 114, 3) := by decide +kernel
theorem d6_isSelection_37 : decode b6_isSelection 37 = .ok (.aload_n 0, 1) := by decide +kernel
theorem d6_isSelection_38 : decode b6_isSelection 38 = .ok (.iload_n 2, 1) := by decide +kernel
theorem d6_isSelection_39 : decode b6_isSelection 39 = .ok (.iconst 2, 1) := by decide +kernel
theorem d6_isSelection_40 : decode b6_isSelection 40 = .ok (.invokevirtual 114, 3) := by decide +kernel
theorem d6_isSelection_43 : decode b6_isSelection 43 = .ok (.iconst (-1), 1) := by decide +kernel
theorem d6_isSelection_44 : decode b6_isSelection 44 = .ok (.invokevirtual 102, 3) := by decide +kernel
theorem d6_isSelection_47 : decode b6_isSelection 47 = .ok (.iconst (-1), 1) := by decide +kernel
theorem d6_isSelection_48 : decode b6_isSelection 48 = .ok (.if_icmp .eq 5, 3) := by decide +kernel
theorem d6_isSelection_51 : decode b6_isSelection 51 = .ok (.iconst 0, 1) := by decide +kernel
theorem d6_isSelection_52 : decode b6_isSelection 52 = .ok (.ireturn, 1) := by decide +kernel
theorem d6_isSelection_53 : decode b6_isSelection 53 = .ok (.iload_n 2, 1) := by decide +kernel
theorem d6_isSelection_54 : decode b6_isSelection 54 = .ok (.iconst 1, 1) := by decide +kernel
theorem d6_isSelection_55 : decode b6_isSelection 55 = .ok (.iadd, 1) := by decide +kernel
theorem d6_isSelection_56 : decode b6_isSelection 56 = .ok (.istore_n 3, 1) := by decide +kernel
theorem d6_isSelection_57 : decode b6_isSelection 57 = .ok (.iload_n 3, 1) := by decide +kernel
theorem d6_isSelection_58 : decode b6_isSelection 58 = .ok (.aload_n 0, 1) := by decide +kernel
theorem d6_isSelection_59 : decode b6_isSelection 59 = .ok (.getfield 13, 3) := by decide +kernel
theorem d6_isSelection_62 : decode b6_isSelection 62 = .ok (.bipush 6, 2) := by decide +kernel
theorem d6_isSelection_64 : decode b6_isSelection 64 = .ok (.iaload, 1) := by decide +kernel
theorem d6_isSelection_65 : decode b6_isSelection 65 = .ok (.if_icmp .ge 29, 3) := by decide +kernel
theorem d6_isSelection_68 : decode b6_isSelection 68 = .ok (.iload_n 1, 1) := by decide +kernel
theorem d6_isSelection_69 : decode b6_isSelection 69 = .ok (.iload_n 3, 1) := by decide +kernel
theorem d6_isSelection_70 : decode b6_isSelection 70 = .ok (.ishr, 1) := by decide +kernel
theorem d6_isSelection_71 : decode b6_isSelection 71 = .ok (.iconst 1, 1) := by decide +kernel
theorem d6_isSelection_72 : decode b6_isSelection 72 = .ok (.iand, 1) := by decide +kernel
theorem d6_isSelection_73 : decode b6_isSelection 73 = .ok (.iconst 1, 1) := by decide +kernel
theorem d6_isSelection_74 : decode b6_isSelection 74 = .ok (.if_icmp .ne 14, 3) := by decide +kernel
theorem d6_isSelection_77 : decode b6_isSelection 77 = .ok (.aload_n 0, 1) := by decide +kernel
theorem d6_isSelection_78 : decode b6_isSelection 78 = .ok (.iload_n 2, 1) := by decide +kernel
theorem d6_isSelection_79 : decode b6_isSelection 79 = .ok (.iload_n 3, 1) := by decide +kernel
theorem d6_isSelection_80 : decode b6_isSelection 80 = .ok (.invokevirtual 286, 3) := by decide +kernel
theorem d6_isSelection_83 : decode b6_isSelection 83 = .ok (.ifCond .ne 5, 3) := by decide +kernel
theorem d6_isSelection_86 : decode b6_isSelection 86 = .ok (.iconst 0, 1) := by decide +kernel
theorem d6_isSelection_87 : decode b6_isSelection 87 = .ok (.ireturn, 1) := by decide +kernel
theorem d6_isSelection_88 : decode b6_isSelection 88 = .ok (.iinc 3 1, 3) := by decide +kernel
theorem d6_isSelection_91 : decode b6_isSelection 91 = .ok (.goto (-34), 3) := by decide +kernel
theorem d6_isSelection_94 : decode b6_isSelection 94 = .ok (.iinc 2 1, 3) := by decide +kernel
theorem d6_isSelection_97 : decode b6_isSelection 97 = .ok (.goto (-95), 3) := by decide +kernel
theorem d6_isSelection_100 : decode b6_isSelection 100 = .ok (.iconst 1, 1) := by decide +kernel
theorem d6_isSelection_101 : decode b6_isSelection 101 = .ok (.ireturn, 1) := by decide +kernel
abbrev b6_valueOf : ByteArray := prog_8_method_108_code
def y6_valueOf : MethodName := ⟨"ChannelScheduleModel", "valueOf", "(I)I"⟩
theorem w6_valueOf : YV y6_valueOf b6_valueOf 4 (some .int) 1 := ⟨LW_i 1732 (by decide +kernel) (by decide +kernel), LW_i 104 (by decide +kernel) (by decide +kernel), LW_i 120 (by decide +kernel) (by decide +kernel), LW_i 1733 (by decide +kernel) (by decide +kernel), by decide +kernel, by decide +kernel⟩
theorem d6_valueOf_0 : decode b6_valueOf 0 = .ok (.iconst 0, 1) := by decide +kernel
theorem d6_valueOf_1 : decode b6_valueOf 1 = .ok (.istore_n 2, 1) := by decide +kernel
theorem d6_valueOf_2 : decode b6_valueOf 2 = .ok (.iconst 0, 1) := by decide +kernel
theorem d6_valueOf_3 : decode b6_valueOf 3 = .ok (.istore_n 3, 1) := by decide +kernel
theorem d6_valueOf_4 : decode b6_valueOf 4 = .ok (.iload_n 3, 1) := by decide +kernel
theorem d6_valueOf_5 : decode b6_valueOf 5 = .ok (.aload_n 0, 1) := by decide +kernel
theorem d6_valueOf_6 : decode b6_valueOf 6 = .ok (.getfield 13, 3) := by decide +kernel
theorem d6_valueOf_9 : decode b6_valueOf 9 = .ok (.bipush 6, 2) := by decide +kernel
theorem d6_valueOf_11 : decode b6_valueOf 11 = .ok (.iaload, 1) := by decide +kernel
theorem d6_valueOf_12 : decode b6_valueOf 12 = .ok (.if_icmp .ge 37, 3) := by decide +kernel
theorem d6_valueOf_15 : decode b6_valueOf 15 = .ok (.iload_n 2, 1) := by decide +kernel
theorem d6_valueOf_16 : decode b6_valueOf 16 = .ok (.iload_n 1, 1) := by decide +kernel
theorem d6_valueOf_17 : decode b6_valueOf 17 = .ok (.iload_n 3, 1) := by decide +kernel
theorem d6_valueOf_18 : decode b6_valueOf 18 = .ok (.ishr, 1) := by decide +kernel
theorem d6_valueOf_19 : decode b6_valueOf 19 = .ok (.iconst 1, 1) := by decide +kernel
theorem d6_valueOf_20 : decode b6_valueOf 20 = .ok (.iand, 1) := by decide +kernel
theorem d6_valueOf_21 : decode b6_valueOf 21 = .ok (.iconst 1, 1) := by decide +kernel
theorem d6_valueOf_22 : decode b6_valueOf 22 = .ok (.if_icmp .ne 18, 3) := by decide +kernel
theorem d6_valueOf_25 : decode b6_valueOf 25 = .ok (.aload_n 0, 1) := by decide +kernel
theorem d6_valueOf_26 : decode b6_valueOf 26 = .ok (.aload_n 0, 1) := by decide +kernel
theorem d6_valueOf_27 : decode b6_valueOf 27 = .ok (.iload_n 3, 1) := by decide +kernel
theorem d6_valueOf_28 : decode b6_valueOf 28 = .ok (.iconst 0, 1) := by decide +kernel
theorem d6_valueOf_29 : decode b6_valueOf 29 = .ok (.invokevirtual 114, 3) := by decide +kernel
theorem d6_valueOf_32 : decode b6_valueOf 32 = .ok (.bipush 9, 2) := by decide +kernel
theorem d6_valueOf_34 : decode b6_valueOf 34 = .ok (.invokevirtual 83, 3) := by decide +kernel
theorem d6_valueOf_37 : decode b6_valueOf 37 = .ok (.goto 4, 3) := by decide +kernel
theorem d6_valueOf_40 : decode b6_valueOf 40 = .ok (.iconst 0, 1) := by decide +kernel
theorem d6_valueOf_41 : decode b6_valueOf 41 = .ok (.iadd, 1) := by decide +kernel
theorem d6_valueOf_42 : decode b6_valueOf 42 = .ok (.istore_n 2, 1) := by decide +kernel
theorem d6_valueOf_43 : decode b6_valueOf 43 = .ok (.iinc 3 1, 3) := by decide +kernel
theorem d6_valueOf_46 : decode b6_valueOf 46 = .ok (.goto (-42), 3) := by decide +kernel
theorem d6_valueOf_49 : decode b6_valueOf 49 = .ok (.iload_n 2, 1) := by decide +kernel
theorem d6_valueOf_50 : decode b6_valueOf 50 = .ok (.ireturn, 1) := by decide +kernel
abbrev b6_isAhead : ByteArray := prog_8_method_109_code
def y6_isAhead : MethodName := ⟨"ChannelScheduleModel", "isAhead", "(II)Z"⟩
theorem w6_isAhead : YS y6_isAhead b6_isAhead 3 (some .boolean) 2 := ⟨LW_i 1735 (by decide +kernel) (by decide +kernel), LW_i 120 (by decide +kernel) (by decide +kernel), LW_i 1736 (by decide +kernel) (by decide +kernel), by decide +kernel, by decide +kernel⟩
theorem d6_isAhead_0 : decode b6_isAhead 0 = .ok (.iload_n 0, 1) := by decide +kernel
theorem d6_isAhead_1 : decode b6_isAhead 1 = .ok (.iload_n 1, 1) := by decide +kernel
theorem d6_isAhead_2 : decode b6_isAhead 2 = .ok (.ixor, 1) := by decide +kernel
theorem d6_isAhead_3 : decode b6_isAhead 3 = .ok (.istore_n 2, 1) := by decide +kernel
theorem d6_isAhead_4 : decode b6_isAhead 4 = .ok (.iload_n 0, 1) := by decide +kernel
theorem d6_isAhead_5 : decode b6_isAhead 5 = .ok (.iload_n 2, 1) := by decide +kernel
theorem d6_isAhead_6 : decode b6_isAhead 6 = .ok (.iand, 1) := by decide +kernel
theorem d6_isAhead_7 : decode b6_isAhead 7 = .ok (.iload_n 2, 1) := by decide +kernel
theorem d6_isAhead_8 : decode b6_isAhead 8 = .ok (.ineg, 1) := by decide +kernel
theorem d6_isAhead_9 : decode b6_isAhead 9 = .ok (.iand, 1) := by decide +kernel
theorem d6_isAhead_10 : decode b6_isAhead 10 = .ok (.ifCond .eq 7, 3) := by decide +kernel
theorem d6_isAhead_13 : decode b6_isAhead 13 = .ok (.iconst 1, 1) := by decide +kernel
theorem d6_isAhead_14 : decode b6_isAhead 14 = .ok (.goto 4, 3) := by decide +kernel
theorem d6_isAhead_17 : decode b6_isAhead 17 = .ok (.iconst 0, 1) := by decide +kernel
theorem d6_isAhead_18 : decode b6_isAhead 18 = .ok (.ireturn, 1) := by decide +kernel
abbrev b6_bestSet : ByteArray := prog_8_method_110_code
def y6_bestSet : MethodName := ⟨"ChannelScheduleModel", "bestSet", "()I"⟩
theorem w6_bestSet : YV y6_bestSet b6_bestSet 4 (some .int) 0 := ⟨LW_i 1728 (by decide +kernel) (by decide +kernel), LW_i 103 (by decide +kernel) (by decide +kernel), LW_i 120 (by decide +kernel) (by decide +kernel), LW_i 1729 (by decide +kernel) (by decide +kernel), by decide +kernel, by decide +kernel⟩
theorem d6_bestSet_0 : decode b6_bestSet 0 = .ok (.iconst 0, 1) := by decide +kernel
theorem d6_bestSet_1 : decode b6_bestSet 1 = .ok (.istore_n 1, 1) := by decide +kernel
theorem d6_bestSet_2 : decode b6_bestSet 2 = .ok (.iconst 1, 1) := by decide +kernel
theorem d6_bestSet_3 : decode b6_bestSet 3 = .ok (.istore_n 2, 1) := by decide +kernel
theorem d6_bestSet_4 : decode b6_bestSet 4 = .ok (.iload_n 2, 1) := by decide +kernel
theorem d6_bestSet_5 : decode b6_bestSet 5 = .ok (.iconst 1, 1) := by decide +kernel
theorem d6_bestSet_6 : decode b6_bestSet 6 = .ok (.aload_n 0, 1) := by decide +kernel
theorem d6_bestSet_7 : decode b6_bestSet 7 = .ok (.getfield 13, 3) := by decide +kernel
theorem d6_bestSet_10 : decode b6_bestSet 10 = .ok (.bipush 6, 2) := by decide +kernel
theorem d6_bestSet_12 : decode b6_bestSet 12 = .ok (.iaload, 1) := by decide +kernel
theorem d6_bestSet_13 : decode b6_bestSet 13 = .ok (.ishl, 1) := by decide +kernel
theorem d6_bestSet_14 : decode b6_bestSet 14 = .ok (.if_icmp .ge 47, 3) := by decide +kernel
theorem d6_bestSet_17 : decode b6_bestSet 17 = .ok (.aload_n 0, 1) := by decide +kernel
theorem d6_bestSet_18 : decode b6_bestSet 18 = .ok (.iload_n 2, 1) := by decide +kernel
theorem d6_bestSet_19 : decode b6_bestSet 19 = .ok (.invokevirtual 289, 3) := by decide +kernel
theorem d6_bestSet_22 : decode b6_bestSet 22 = .ok (.aload_n 0, 1) := by decide +kernel
theorem d6_bestSet_23 : decode b6_bestSet 23 = .ok (.iload_n 1, 1) := by decide +kernel
theorem d6_bestSet_24 : decode b6_bestSet 24 = .ok (.invokevirtual 289, 3) := by decide +kernel
theorem d6_bestSet_27 : decode b6_bestSet 27 = .ok (.isub, 1) := by decide +kernel
theorem d6_bestSet_28 : decode b6_bestSet 28 = .ok (.istore_n 3, 1) := by decide +kernel
theorem d6_bestSet_29 : decode b6_bestSet 29 = .ok (.iload_n 3, 1) := by decide +kernel
theorem d6_bestSet_30 : decode b6_bestSet 30 = .ok (.ifCond .gt 15, 3) := by decide +kernel
theorem d6_bestSet_33 : decode b6_bestSet 33 = .ok (.iload_n 3, 1) := by decide +kernel
theorem d6_bestSet_34 : decode b6_bestSet 34 = .ok (.ifCond .ne 21, 3) := by decide +kernel
theorem d6_bestSet_37 : decode b6_bestSet 37 = .ok (.iload_n 2, 1) := by decide +kernel
theorem d6_bestSet_38 : decode b6_bestSet 38 = .ok (.iload_n 1, 1) := by decide +kernel
theorem d6_bestSet_39 : decode b6_bestSet 39 = .ok (.invokestatic 292, 3) := by decide +kernel
theorem d6_bestSet_42 : decode b6_bestSet 42 = .ok (.ifCond .eq 13, 3) := by decide +kernel
theorem d6_bestSet_45 : decode b6_bestSet 45 = .ok (.aload_n 0, 1) := by decide +kernel
theorem d6_bestSet_46 : decode b6_bestSet 46 = .ok (.iload_n 2, 1) := by decide +kernel
theorem d6_bestSet_47 : decode b6_bestSet 47 = .ok (.invokevirtual 295, 3) := by decide +kernel
theorem d6_bestSet_50 : decode b6_bestSet 50 = .ok (.ifCond .eq 5, 3) := by decide +kernel
theorem d6_bestSet_53 : decode b6_bestSet 53 = .ok (.iload_n 2, 1) := by decide +kernel
theorem d6_bestSet_54 : decode b6_bestSet 54 = .ok (.istore_n 1, 1) := by decide +kernel
theorem d6_bestSet_55 : decode b6_bestSet 55 = .ok (.iinc 2 1, 3) := by decide +kernel
theorem d6_bestSet_58 : decode b6_bestSet 58 = .ok (.goto (-54), 3) := by decide +kernel
theorem d6_bestSet_61 : decode b6_bestSet 61 = .ok (.iload_n 1, 1) := by decide +kernel
theorem d6_bestSet_62 : decode b6_bestSet 62 = .ok (.ireturn, 1) := by decide +kernel
abbrev b6_bestValue : ByteArray := prog_8_method_111_code
def y6_bestValue : MethodName := ⟨"ChannelScheduleModel", "bestValue", "()I"⟩
theorem w6_bestValue : YV y6_bestValue b6_bestValue 1 (some .int) 0 := ⟨LW_i 1723 (by decide +kernel) (by decide +kernel), LW_i 1724 (by decide +kernel) (by decide +kernel), LW_i 120 (by decide +kernel) (by decide +kernel), LW_i 1725 (by decide +kernel) (by decide +kernel), by decide +kernel, by decide +kernel⟩
theorem d6_bestValue_0 : decode b6_bestValue 0 = .ok (.aload_n 0, 1) := by decide +kernel
theorem d6_bestValue_1 : decode b6_bestValue 1 = .ok (.iconst 0, 1) := by decide +kernel
theorem d6_bestValue_2 : decode b6_bestValue 2 = .ok (.putfield 1, 3) := by decide +kernel
theorem d6_bestValue_5 : decode b6_bestValue 5 = .ok (.aload_n 0, 1) := by decide +kernel
theorem d6_bestValue_6 : decode b6_bestValue 6 = .ok (.aload_n 0, 1) := by decide +kernel
theorem d6_bestValue_7 : decode b6_bestValue 7 = .ok (.invokevirtual 298, 3) := by decide +kernel
theorem d6_bestValue_10 : decode b6_bestValue 10 = .ok (.invokevirtual 289, 3) := by decide +kernel
theorem d6_bestValue_13 : decode b6_bestValue 13 = .ok (.ireturn, 1) := by decide +kernel
abbrev b6_isSelected : ByteArray := prog_8_method_112_code
def y6_isSelected : MethodName := ⟨"ChannelScheduleModel", "isSelected", "(I)Z"⟩
theorem w6_isSelected : YV y6_isSelected b6_isSelected 2 (some .boolean) 1 := ⟨LW_i 1746 (by decide +kernel) (by decide +kernel), LW_i 1747 (by decide +kernel) (by decide +kernel), LW_i 120 (by decide +kernel) (by decide +kernel), LW_i 1748 (by decide +kernel) (by decide +kernel), by decide +kernel, by decide +kernel⟩
theorem d6_isSelected_0 : decode b6_isSelected 0 = .ok (.aload_n 0, 1) := by decide +kernel
theorem d6_isSelected_1 : decode b6_isSelected 1 = .ok (.aload_n 0, 1) := by decide +kernel
theorem d6_isSelected_2 : decode b6_isSelected 2 = .ok (.iload_n 1, 1) := by decide +kernel
theorem d6_isSelected_3 : decode b6_isSelected 3 = .ok (.invokevirtual 247, 3) := by decide +kernel
theorem d6_isSelected_6 : decode b6_isSelected 6 = .ok (.ifCond .ne 7, 3) := by decide +kernel
theorem d6_isSelected_9 : decode b6_isSelected 9 = .ok (.iconst 1, 1) := by decide +kernel
theorem d6_isSelected_10 : decode b6_isSelected 10 = .ok (.goto 4, 3) := by decide +kernel
theorem d6_isSelected_13 : decode b6_isSelected 13 = .ok (.iconst 0, 1) := by decide +kernel
theorem d6_isSelected_14 : decode b6_isSelected 14 = .ok (.iconst 0, 1) := by decide +kernel
theorem d6_isSelected_15 : decode b6_isSelected 15 = .ok (.iconst 0, 1) := by decide +kernel
theorem d6_isSelected_16 : decode b6_isSelected 16 = .ok (.invokevirtual 148, 3) := by decide +kernel
theorem d6_isSelected_19 : decode b6_isSelected 19 = .ok (.ifCond .eq 5, 3) := by decide +kernel
theorem d6_isSelected_22 : decode b6_isSelected 22 = .ok (.iconst 0, 1) := by decide +kernel
theorem d6_isSelected_23 : decode b6_isSelected 23 = .ok (.ireturn, 1) := by decide +kernel
theorem d6_isSelected_24 : decode b6_isSelected 24 = .ok (.aload_n 0, 1) := by decide +kernel
theorem d6_isSelected_25 : decode b6_isSelected 25 = .ok (.invokevirtual 298, 3) := by decide +kernel
theorem d6_isSelected_28 : decode b6_isSelected 28 = .ok (.iload_n 1, 1) := by decide +kernel
theorem d6_isSelected_29 : decode b6_isSelected 29 = .ok (.ishr, 1) := by decide +kernel
theorem d6_isSelected_30 : decode b6_isSelected 30 = .ok (.iconst 1, 1) := by decide +kernel
theorem d6_isSelected_31 : decode b6_isSelected 31 = .ok (.iand, 1) := by decide +kernel
theorem d6_isSelected_32 : decode b6_isSelected 32 = .ok (.iconst 1, 1) := by decide +kernel
theorem d6_isSelected_33 : decode b6_isSelected 33 = .ok (.if_icmp .ne 7, 3) := by decide +kernel
theorem d6_isSelected_36 : decode b6_isSelected 36 = .ok (.iconst 1, 1) := by decide +kernel
theorem d6_isSelected_37 : decode b6_isSelected 37 = .ok (.goto 4, 3) := by decide +kernel
theorem d6_isSelected_40 : decode b6_isSelected 40 = .ok (.iconst 0, 1) := by decide +kernel
theorem d6_isSelected_41 : decode b6_isSelected 41 = .ok (.ireturn, 1) := by decide +kernel
abbrev b6_servedWithout : ByteArray := prog_8_method_113_code
def y6_servedWithout : MethodName := ⟨"ChannelScheduleModel", "servedWithout", "(I)I"⟩
theorem w6_servedWithout : YV y6_servedWithout b6_servedWithout 3 (some .int) 1 := ⟨LW_i 1750 (by decide +kernel) (by decide +kernel), LW_i 1751 (by decide +kernel) (by decide +kernel), LW_i 120 (by decide +kernel) (by decide +kernel), LW_i 1752 (by decide +kernel) (by decide +kernel), by decide +kernel, by decide +kernel⟩
theorem d6_servedWithout_0 : decode b6_servedWithout 0 = .ok (.aload_n 0, 1) := by decide +kernel
theorem d6_servedWithout_1 : decode b6_servedWithout 1 = .ok (.aload_n 0, 1) := by decide +kernel
theorem d6_servedWithout_2 : decode b6_servedWithout 2 = .ok (.iload_n 1, 1) := by decide +kernel
theorem d6_servedWithout_3 : decode b6_servedWithout 3 = .ok (.invokevirtual 235, 3) := by decide +kernel
theorem d6_servedWithout_6 : decode b6_servedWithout 6 = .ok (.ifCond .ne 7, 3) := by decide +kernel
theorem d6_servedWithout_9 : decode b6_servedWithout 9 = .ok (.iconst 1, 1) := by decide +kernel
theorem d6_servedWithout_10 : decode b6_servedWithout 10 = .ok (.goto 4, 3) := by decide +kernel
theorem d6_servedWithout_13 : decode b6_servedWithout 13 = .ok (.iconst 0, 1) := by decide +kernel
theorem d6_servedWithout_14 : decode b6_servedWithout 14 = .ok (.iconst 0, 1) := by decide +kernel
theorem d6_servedWithout_15 : decode b6_servedWithout 15 = .ok (.iconst 0, 1) := by decide +kernel
theorem d6_servedWithout_16 : decode b6_servedWithout 16 = .ok (.invokevirtual 148, 3) := by decide +kernel
theorem d6_servedWithout_19 : decode b6_servedWithout 19 = .ok (.ifCond .eq 5, 3) := by decide +kernel
theorem d6_servedWithout_22 : decode b6_servedWithout 22 = .ok (.iconst 0, 1) := by decide +kernel
theorem d6_servedWithout_23 : decode b6_servedWithout 23 = .ok (.ireturn, 1) := by decide +kernel
theorem d6_servedWithout_24 : decode b6_servedWithout 24 = .ok (.aload_n 0, 1) := by decide +kernel
theorem d6_servedWithout_25 : decode b6_servedWithout 25 = .ok (.iconst 0, 1) := by decide +kernel
theorem d6_servedWithout_26 : decode b6_servedWithout 26 = .ok (.bipush 9, 2) := by decide +kernel
theorem d6_servedWithout_28 : decode b6_servedWithout 28 = .ok (.invokevirtual 79, 3) := by decide +kernel
theorem d6_servedWithout_31 : decode b6_servedWithout 31 = .ok (.aload_n 0, 1) := by decide +kernel
theorem d6_servedWithout_32 : decode b6_servedWithout 32 = .ok (.iload_n 1, 1) := by decide +kernel
theorem d6_servedWithout_33 : decode b6_servedWithout 33 = .ok (.invokevirtual 238, 3) := by decide +kernel
theorem d6_servedWithout_36 : decode b6_servedWithout 36 = .ok (.istore_n 2, 1) := by decide +kernel
theorem d6_servedWithout_37 : decode b6_servedWithout 37 = .ok (.aload_n 0, 1) := by decide +kernel
theorem d6_servedWithout_38 : decode b6_servedWithout 38 = .ok (.bipush 9, 2) := by decide +kernel
theorem d6_servedWithout_40 : decode b6_servedWithout 40 = .ok (.iconst 0, 1) := by decide +kernel
theorem d6_servedWithout_41 : decode b6_servedWithout 41 = .ok (.invokevirtual 79, 3) := by decide +kernel
theorem d6_servedWithout_44 : decode b6_servedWithout 44 = .ok (.iload_n 2, 1) := by decide +kernel
theorem d6_servedWithout_45 : decode b6_servedWithout 45 = .ok (.ireturn, 1) := by decide +kernel
abbrev b6_bookingsMade : ByteArray := prog_8_method_114_code
def y6_bookingsMade : MethodName := ⟨"ChannelScheduleModel", "bookingsMade", "()I"⟩
theorem w6_bookingsMade : YV y6_bookingsMade b6_bookingsMade 1 (some .int) 0 := ⟨LW_i 1754 (by decide +kernel) (by decide +kernel), LW_i 1755 (by decide +kernel) (by decide +kernel), LW_i 120 (by decide +kernel) (by decide +kernel), LW_i 1756 (by decide +kernel) (by decide +kernel), by decide +kernel, by decide +kernel⟩
theorem d6_bookingsMade_0 : decode b6_bookingsMade 0 = .ok (.aload_n 0, 1) := by decide +kernel
theorem d6_bookingsMade_1 : decode b6_bookingsMade 1 = .ok (.aload_n 0, 1) := by decide +kernel
theorem d6_bookingsMade_2 : decode b6_bookingsMade 2 = .ok (.getfield 13, 3) := by decide +kernel
theorem d6_bookingsMade_5 : decode b6_bookingsMade 5 = .ok (.bipush 7, 2) := by decide +kernel
theorem d6_bookingsMade_7 : decode b6_bookingsMade 7 = .ok (.iaload, 1) := by decide +kernel
theorem d6_bookingsMade_8 : decode b6_bookingsMade 8 = .ok (.invokevirtual 265, 3) := by decide +kernel
theorem d6_bookingsMade_11 : decode b6_bookingsMade 11 = .ok (.ireturn, 1) := by decide +kernel
abbrev b6_bookingsCancelled : ByteArray := prog_8_method_115_code
def y6_bookingsCancelled : MethodName := ⟨"ChannelScheduleModel", "bookingsCancelled", "()I"⟩
theorem w6_bookingsCancelled : YV y6_bookingsCancelled b6_bookingsCancelled 1 (some .int) 0 := ⟨LW_i 1758 (by decide +kernel) (by decide +kernel), LW_i 1759 (by decide +kernel) (by decide +kernel), LW_i 120 (by decide +kernel) (by decide +kernel), LW_i 1760 (by decide +kernel) (by decide +kernel), by decide +kernel, by decide +kernel⟩
theorem d6_bookingsCancelled_0 : decode b6_bookingsCancelled 0 = .ok (.aload_n 0, 1) := by decide +kernel
theorem d6_bookingsCancelled_1 : decode b6_bookingsCancelled 1 = .ok (.aload_n 0, 1) := by decide +kernel
theorem d6_bookingsCancelled_2 : decode b6_bookingsCancelled 2 = .ok (.getfield 13, 3) := by decide +kernel
theorem d6_bookingsCancelled_5 : decode b6_bookingsCancelled 5 = .ok (.bipush 8, 2) := by decide +kernel
theorem d6_bookingsCancelled_7 : decode b6_bookingsCancelled 7 = .ok (.iaload, 1) := by decide +kernel
theorem d6_bookingsCancelled_8 : decode b6_bookingsCancelled 8 = .ok (.invokevirtual 265, 3) := by decide +kernel
theorem d6_bookingsCancelled_11 : decode b6_bookingsCancelled 11 = .ok (.ireturn, 1) := by decide +kernel
abbrev b6_requestsServed : ByteArray := prog_8_method_116_code
def y6_requestsServed : MethodName := ⟨"ChannelScheduleModel", "requestsServed", "()I"⟩
theorem w6_requestsServed : YV y6_requestsServed b6_requestsServed 1 (some .int) 0 := ⟨LW_i 1762 (by decide +kernel) (by decide +kernel), LW_i 1763 (by decide +kernel) (by decide +kernel), LW_i 120 (by decide +kernel) (by decide +kernel), LW_i 1764 (by decide +kernel) (by decide +kernel), by decide +kernel, by decide +kernel⟩
theorem d6_requestsServed_0 : decode b6_requestsServed 0 = .ok (.aload_n 0, 1) := by decide +kernel
theorem d6_requestsServed_1 : decode b6_requestsServed 1 = .ok (.aload_n 0, 1) := by decide +kernel
theorem d6_requestsServed_2 : decode b6_requestsServed 2 = .ok (.getfield 13, 3) := by decide +kernel
theorem d6_requestsServed_5 : decode b6_requestsServed 5 = .ok (.bipush 9, 2) := by decide +kernel
theorem d6_requestsServed_7 : decode b6_requestsServed 7 = .ok (.iaload, 1) := by decide +kernel
theorem d6_requestsServed_8 : decode b6_requestsServed 8 = .ok (.invokevirtual 265, 3) := by decide +kernel
theorem d6_requestsServed_11 : decode b6_requestsServed 11 = .ok (.ireturn, 1) := by decide +kernel
abbrev b6_utilization : ByteArray := prog_8_method_117_code
def y6_utilization : MethodName := ⟨"ChannelScheduleModel", "utilization", "()F"⟩
theorem w6_utilization : YV y6_utilization b6_utilization 4 (some .float) 0 := ⟨LW_i 1766 (by decide +kernel) (by decide +kernel), LW_i 1767 (by decide +kernel) (by decide +kernel), LW_i 120 (by decide +kernel) (by decide +kernel), LW_i 1768 (by decide +kernel) (by decide +kernel), by decide +kernel, by decide +kernel⟩
theorem d6_utilization_0 : decode b6_utilization 0 = .ok (.aload_n 0, 1) := by decide +kernel
theorem d6_utilization_1 : decode b6_utilization 1 = .ok (.iconst 0, 1) := by decide +kernel
theorem d6_utilization_2 : decode b6_utilization 2 = .ok (.putfield 1, 3) := by decide +kernel
theorem d6_utilization_5 : decode b6_utilization 5 = .ok (.iconst 0, 1) := by decide +kernel
theorem d6_utilization_6 : decode b6_utilization 6 = .ok (.istore_n 1, 1) := by decide +kernel
theorem d6_utilization_7 : decode b6_utilization 7 = .ok (.iconst 0, 1) := by decide +kernel
theorem d6_utilization_8 : decode b6_utilization 8 = .ok (.istore_n 2, 1) := by decide +kernel
theorem d6_utilization_9 : decode b6_utilization 9 = .ok (.iload_n 2, 1) := by decide +kernel
theorem d6_utilization_10 : decode b6_utilization 10 = .ok (.aload_n 0, 1) := by decide +kernel
theorem d6_utilization_11 : decode b6_utilization 11 = .ok (.getfield 13, 3) := by decide +kernel
theorem d6_utilization_14 : decode b6_utilization 14 = .ok (.iconst 5, 1) := by decide +kernel
theorem d6_utilization_15 : decode b6_utilization 15 = .ok (.iaload, 1) := by decide +kernel
theorem d6_utilization_16 : decode b6_utilization 16 = .ok (.if_icmp .ge 30, 3) := by decide +kernel
theorem d6_utilization_19 : decode b6_utilization 19 = .ok (.aload_n 0, 1) := by decide +kernel
theorem d6_utilization_20 : decode b6_utilization 20 = .ok (.iload_n 2, 1) := by decide +kernel
theorem d6_utilization_21 : decode b6_utilization 21 = .ok (.iconst 3, 1) := by decide +kernel
theorem d6_utilization_22 : decode b6_utilization 22 = .ok (.invokevirtual 91, 3) := by decide +kernel
theorem d6_utilization_25 : decode b6_utilization 25 = .ok (.iload_n 1, 1) := by decide +kernel
theorem d6_utilization_26 : decode b6_utilization 26 = .ok (.if_icmp .le 12, 3) := by decide +kernel
theorem d6_utilization_29 : decode b6_utilization 29 = .ok (.aload_n 0, 1) := by decide +kernel
theorem d6_utilization_30 : decode b6_utilization 30 = .ok (.iload_n 2, 1) := by decide +kernel
theorem d6_utilization_31 : decode b6_utilization 31 = .ok (.iconst 3, 1) := by decide +kernel
theorem d6_utilization_32 : decode b6_utilization 32 = .ok (.invokevirtual 91, 3) := by decide +kernel
theorem d6_utilization_35 : decode b6_utilization 35 = .ok (.goto 4, 3) := by decide +kernel
theorem d6_utilization_38 : decode b6_utilization 38 = .ok (.iload_n 1, 1) := by decide +kernel
theorem d6_utilization_39 : decode b6_utilization 39 = .ok (.istore_n 1, 1) := by decide +kernel
theorem d6_utilization_40 : decode b6_utilization 40 = .ok (.iinc 2 1, 3) := by decide +kernel
theorem d6_utilization_43 : decode b6_utilization 43 = .ok (.goto (-34), 3) := by decide +kernel
theorem d6_utilization_46 : decode b6_utilization 46 = .ok (.iconst 0, 1) := by decide +kernel
theorem d6_utilization_47 : decode b6_utilization 47 = .ok (.istore_n 2, 1) := by decide +kernel
theorem d6_utilization_48 : decode b6_utilization 48 = .ok (.iconst 0, 1) := by decide +kernel
theorem d6_utilization_49 : decode b6_utilization 49 = .ok (.istore_n 3, 1) := by decide +kernel
theorem d6_utilization_50 : decode b6_utilization 50 = .ok (.iload_n 3, 1) := by decide +kernel
theorem d6_utilization_51 : decode b6_utilization 51 = .ok (.iload_n 1, 1) := by decide +kernel
theorem d6_utilization_52 : decode b6_utilization 52 = .ok (.if_icmp .ge 25, 3) := by decide +kernel
theorem d6_utilization_55 : decode b6_utilization 55 = .ok (.iload_n 2, 1) := by decide +kernel
theorem d6_utilization_56 : decode b6_utilization 56 = .ok (.aload_n 0, 1) := by decide +kernel
theorem d6_utilization_57 : decode b6_utilization 57 = .ok (.iload_n 3, 1) := by decide +kernel
theorem d6_utilization_58 : decode b6_utilization 58 = .ok (.invokevirtual 274, 3) := by decide +kernel
theorem d6_utilization_61 : decode b6_utilization 61 = .ok (.ifCond .le 7, 3) := by decide +kernel
theorem d6_utilization_64 : decode b6_utilization 64 = .ok (.iconst 1, 1) := by decide +kernel
theorem d6_utilization_65 : decode b6_utilization 65 = .ok (.goto 4, 3) := by decide +kernel
theorem d6_utilization_68 : decode b6_utilization 68 = .ok (.iconst 0, 1) := by decide +kernel
theorem d6_utilization_69 : decode b6_utilization 69 = .ok (.iadd, 1) := by decide +kernel
theorem d6_utilization_70 : decode b6_utilization 70 = .ok (.istore_n 2, 1) := by decide +kernel
theorem d6_utilization_71 : decode b6_utilization 71 = .ok (.iinc 3 1, 3) := by decide +kernel
theorem d6_utilization_74 : decode b6_utilization 74 = .ok (.goto (-24), 3) := by decide +kernel
theorem d6_utilization_77 : decode b6_utilization 77 = .ok (.aload_n 0, 1) := by decide +kernel
theorem d6_utilization_78 : decode b6_utilization 78 = .ok (.getfield 13, 3) := by decide +kernel
theorem d6_utilization_81 : decode b6_utilization 81 = .ok (.iconst 5, 1) := by decide +kernel
theorem d6_utilization_82 : decode b6_utilization 82 = .ok (.iaload, 1) := by decide +kernel
theorem d6_utilization_83 : decode b6_utilization 83 = .ok (.ifCond .ne 7, 3) := by decide +kernel
theorem d6_utilization_86 : decode b6_utilization 86 = .ok (.fconst 0, 1) := by decide +kernel
theorem d6_utilization_87 : decode b6_utilization 87 = .ok (.goto 8, 3) := by decide +kernel
theorem d6_utilization_90 : decode b6_utilization 90 = .ok (.iload_n 2, 1) := by decide +kernel
theorem d6_utilization_91 : decode b6_utilization 91 = .ok (.i2f, 1) := by decide +kernel
theorem d6_utilization_92 : decode b6_utilization 92 = .ok (.iload_n 1, 1) := by decide +kernel
theorem d6_utilization_93 : decode b6_utilization 93 = .ok (.i2f, 1) := by decide +kernel
theorem d6_utilization_94 : decode b6_utilization 94 = .ok (.fdiv, 1) := by decide +kernel
theorem d6_utilization_95 : decode b6_utilization 95 = .ok (.freturn, 1) := by decide +kernel
abbrev b6_meanTransit : ByteArray := prog_8_method_118_code
def y6_meanTransit : MethodName := ⟨"ChannelScheduleModel", "meanTransit", "()D"⟩
theorem w6_meanTransit : YV y6_meanTransit b6_meanTransit 3 (some .double) 0 := ⟨LW_i 1770 (by decide +kernel) (by decide +kernel), LW_i 1771 (by decide +kernel) (by decide +kernel), LW_i 120 (by decide +kernel) (by decide +kernel), LW_i 1772 (by decide +kernel) (by decide +kernel), by decide +kernel, by decide +kernel⟩
theorem d6_meanTransit_0 : decode b6_meanTransit 0 = .ok (.aload_n 0, 1) := by decide +kernel
theorem d6_meanTransit_1 : decode b6_meanTransit 1 = .ok (.iconst 0, 1) := by decide +kernel
theorem d6_meanTransit_2 : decode b6_meanTransit 2 = .ok (.putfield 1, 3) := by decide +kernel
theorem d6_meanTransit_5 : decode b6_meanTransit 5 = .ok (.iconst 0, 1) := by decide +kernel
theorem d6_meanTransit_6 : decode b6_meanTransit 6 = .ok (.istore_n 1, 1) := by decide +kernel
theorem d6_meanTransit_7 : decode b6_meanTransit 7 = .ok (.iconst 0, 1) := by decide +kernel
theorem d6_meanTransit_8 : decode b6_meanTransit 8 = .ok (.istore_n 2, 1) := by decide +kernel
theorem d6_meanTransit_9 : decode b6_meanTransit 9 = .ok (.iload_n 2, 1) := by decide +kernel
theorem d6_meanTransit_10 : decode b6_meanTransit 10 = .ok (.aload_n 0, 1) := by decide +kernel
theorem d6_meanTransit_11 : decode b6_meanTransit 11 = .ok (.getfield 13, 3) := by decide +kernel
theorem d6_meanTransit_14 : decode b6_meanTransit 14 = .ok (.iconst 5, 1) := by decide +kernel
theorem d6_meanTransit_15 : decode b6_meanTransit 15 = .ok (.iaload, 1) := by decide +kernel
theorem d6_meanTransit_16 : decode b6_meanTransit 16 = .ok (.if_icmp .ge 25, 3) := by decide +kernel
theorem d6_meanTransit_19 : decode b6_meanTransit 19 = .ok (.iload_n 1, 1) := by decide +kernel
theorem d6_meanTransit_20 : decode b6_meanTransit 20 = .ok (.aload_n 0, 1) := by decide +kernel
theorem d6_meanTransit_21 : decode b6_meanTransit 21 = .ok (.iload_n 2, 1) := by decide +kernel
theorem d6_meanTransit_22 : decode b6_meanTransit 22 = .ok (.iconst 3, 1) := by decide +kernel
theorem d6_meanTransit_23 : decode b6_meanTransit 23 = .ok (.invokevirtual 91, 3) := by decide +kernel
theorem d6_meanTransit_26 : decode b6_meanTransit 26 = .ok (.aload_n 0, 1) := by decide +kernel
theorem d6_meanTransit_27 : decode b6_meanTransit 27 = .ok (.iload_n 2, 1) := by decide +kernel
theorem d6_meanTransit_28 : decode b6_meanTransit 28 = .ok (.iconst 2, 1) := by decide +kernel
theorem d6_meanTransit_29 : decode b6_meanTransit 29 = .ok (.invokevirtual 91, 3) := by decide +kernel
theorem d6_meanTransit_32 : decode b6_meanTransit 32 = .ok (.isub, 1) := by decide +kernel
theorem d6_meanTransit_33 : decode b6_meanTransit 33 = .ok (.iadd, 1) := by decide +kernel
theorem d6_meanTransit_34 : decode b6_meanTransit 34 = .ok (.istore_n 1, 1) := by decide +kernel
theorem d6_meanTransit_35 : decode b6_meanTransit 35 = .ok (.iinc 2 1, 3) := by decide +kernel
theorem d6_meanTransit_38 : decode b6_meanTransit 38 = .ok (.goto (-29), 3) := by decide +kernel
theorem d6_meanTransit_41 : decode b6_meanTransit 41 = .ok (.aload_n 0, 1) := by decide +kernel
theorem d6_meanTransit_42 : decode b6_meanTransit 42 = .ok (.getfield 13, 3) := by decide +kernel
theorem d6_meanTransit_45 : decode b6_meanTransit 45 = .ok (.iconst 5, 1) := by decide +kernel
theorem d6_meanTransit_46 : decode b6_meanTransit 46 = .ok (.iaload, 1) := by decide +kernel
theorem d6_meanTransit_47 : decode b6_meanTransit 47 = .ok (.ifCond .ne 7, 3) := by decide +kernel
theorem d6_meanTransit_50 : decode b6_meanTransit 50 = .ok (.dconst 0, 1) := by decide +kernel
theorem d6_meanTransit_51 : decode b6_meanTransit 51 = .ok (.goto 13, 3) := by decide +kernel
theorem d6_meanTransit_54 : decode b6_meanTransit 54 = .ok (.iload_n 1, 1) := by decide +kernel
theorem d6_meanTransit_55 : decode b6_meanTransit 55 = .ok (.i2d, 1) := by decide +kernel
theorem d6_meanTransit_56 : decode b6_meanTransit 56 = .ok (.aload_n 0, 1) := by decide +kernel
theorem d6_meanTransit_57 : decode b6_meanTransit 57 = .ok (.getfield 13, 3) := by decide +kernel
theorem d6_meanTransit_60 : decode b6_meanTransit 60 = .ok (.iconst 5, 1) := by decide +kernel
theorem d6_meanTransit_61 : decode b6_meanTransit 61 = .ok (.iaload, 1) := by decide +kernel
theorem d6_meanTransit_62 : decode b6_meanTransit 62 = .ok (.i2d, 1) := by decide +kernel
theorem d6_meanTransit_63 : decode b6_meanTransit 63 = .ok (.ddiv, 1) := by decide +kernel
theorem d6_meanTransit_64 : decode b6_meanTransit 64 = .ok (.dreturn, 1) := by decide +kernel
abbrev b6_inconsistencies : ByteArray := prog_8_method_119_code
def y6_inconsistencies : MethodName := ⟨"ChannelScheduleModel", "inconsistencies", "()I"⟩
theorem w6_inconsistencies : YV y6_inconsistencies b6_inconsistencies 4 (some .int) 0 := ⟨LW_i 1774 (by decide +kernel) (by decide +kernel), LW_i 1775 (by decide +kernel) (by decide +kernel), LW_i 120 (by decide +kernel) (by decide +kernel), LW_i 1776 (by decide +kernel) (by decide +kernel), by decide +kernel, by decide +kernel⟩
theorem d6_inconsistencies_0 : decode b6_inconsistencies 0 = .ok (.aload_n 0, 1) := by decide +kernel
theorem d6_inconsistencies_1 : decode b6_inconsistencies 1 = .ok (.iconst 0, 1) := by decide +kernel
theorem d6_inconsistencies_2 : decode b6_inconsistencies 2 = .ok (.putfield 1, 3) := by decide +kernel
theorem d6_inconsistencies_5 : decode b6_inconsistencies 5 = .ok (.aload_n 0, 1) := by decide +kernel
theorem d6_inconsistencies_6 : decode b6_inconsistencies 6 = .ok (.getfield 13, 3) := by decide +kernel
theorem d6_inconsistencies_9 : decode b6_inconsistencies 9 = .ok (.bipush 7, 2) := by decide +kernel
theorem d6_inconsistencies_11 : decode b6_inconsistencies 11 = .ok (.iaload, 1) := by decide +kernel
theorem d6_inconsistencies_12 : decode b6_inconsistencies 12 = .ok (.aload_n 0, 1) := by decide +kernel
theorem d6_inconsistencies_13 : decode b6_inconsistencies 13 = .ok (.getfield 13, 3) := by decide +kernel
theorem d6_inconsistencies_16 : decode b6_inconsistencies 16 = .ok (.bipush 8, 2) := by decide +kernel
theorem d6_inconsistencies_18 : decode b6_inconsistencies 18 = .ok (.iaload, 1) := by decide +kernel
theorem d6_inconsistencies_19 : decode b6_inconsistencies 19 = .ok (.isub, 1) := by decide +kernel
theorem d6_inconsistencies_20 : decode b6_inconsistencies 20 = .ok (.aload_n 0, 1) := by decide +kernel
theorem d6_inconsistencies_21 : decode b6_inconsistencies 21 = .ok (.getfield 13, 3) := by decide +kernel
theorem d6_inconsistencies_24 : decode b6_inconsistencies 24 = .ok (.iconst 5, 1) := by decide +kernel
theorem d6_inconsistencies_25 : decode b6_inconsistencies 25 = .ok (.iaload, 1) := by decide +kernel
theorem d6_inconsistencies_26 : decode b6_inconsistencies 26 = .ok (.isub, 1) := by decide +kernel
theorem d6_inconsistencies_27 : decode b6_inconsistencies 27 = .ok (.istore_n 1, 1) := by decide +kernel
theorem d6_inconsistencies_28 : decode b6_inconsistencies 28 = .ok (.iconst 0, 1) := by decide +kernel
theorem d6_inconsistencies_29 : decode b6_inconsistencies 29 = .ok (.istore_n 2, 1) := by decide +kernel
theorem d6_inconsistencies_30 : decode b6_inconsistencies 30 = .ok (.iload_n 2, 1) := by decide +kernel
theorem d6_inconsistencies_31 : decode b6_inconsistencies 31 = .ok (.aload_n 0, 1) := by decide +kernel
theorem d6_inconsistencies_32 : decode b6_inconsistencies 32 = .ok (.getfield 13, 3) := by decide +kernel
theorem d6_inconsistencies_35 : decode b6_inconsistencies 35 = .ok (.iconst 5, 1) := by decide +kernel
theorem d6_inconsistencies_36 : decode b6_inconsistencies 36 = .ok (.iaload, 1) := by decide +kernel
theorem d6_inconsistencies_37 : decode b6_inconsistencies 37 = .ok (.if_icmp .ge 63, 3) := by decide +kernel
theorem d6_inconsistencies_40 : decode b6_inconsistencies 40 = .ok (.iload_n 2, 1) := by decide +kernel
theorem d6_inconsistencies_41 : decode b6_inconsistencies 41 = .ok (.iconst 1, 1) := by decide +kernel
theorem d6_inconsistencies_42 : decode b6_inconsistencies 42 = .ok (.iadd, 1) := by decide +kernel
theorem d6_inconsistencies_43 : decode b6_inconsistencies 43 = .ok (.istore_n 3, 1) := by decide +kernel
theorem d6_inconsistencies_44 : decode b6_inconsistencies 44 = .ok (.iload_n 3, 1) := by decide +kernel
theorem d6_inconsistencies_45 : decode b6_inconsistencies 45 = .ok (.aload_n 0, 1) := by decide +kernel
theorem d6_inconsistencies_46 : decode b6_inconsistencies 46 = .ok (.getfield 13, 3) := by decide +kernel
theorem d6_inconsistencies_49 : decode b6_inconsistencies 49 = .ok (.iconst 5, 1) := by decide +kernel
theorem d6_inconsistencies_50 : decode b6_inconsistencies 50 = .ok (.iaload, 1) := by decide +kernel
theorem d6_inconsistencies_51 : decode b6_inconsistencies 51 = .ok (.if_icmp .ge 43, 3) := by decide +kernel
theorem d6_inconsistencies_54 : decode b6_inconsistencies 54 = .ok (.iload_n 1, 1) := by decide +kernel
theorem d6_inconsistencies_55 : decode b6_inconsistencies 55 = .ok (.aload_n 0, 1) := by decide +kernel
theorem d6_inconsistencies_56 : decode b6_inconsistencies 56 = .ok (.iload_n 2, 1) := by decide +kernel
theorem d6_inconsistencies_57 : decode b6_inconsistencies 57 = .ok (.aload_n 0, 1) := by decide +kernel
theorem d6_inconsistencies_58 : decode b6_inconsistencies 58 = .ok (.iload_n 3, 1) := by decide +kernel
theorem d6_inconsistencies_59 : decode b6_inconsistencies 59 = .ok (.iconst 1, 1) := by decide +kernel
theorem d6_inconsistencies_60 : decode b6_inconsistencies 60 = .ok (.invokevirtual 91, 3) := by decide +kernel
theorem d6_inconsistencies_63 : decode b6_inconsistencies 63 = .ok (.aload_n 0, 1) := by decide +kernel
theorem d6_inconsistencies_64 : decode b6_inconsistencies 64 = .ok (.iload_n 3, 1) := by decide +kernel
theorem d6_inconsistencies_65 : decode b6_inconsistencies 65 = .ok (.iconst 2, 1) := by decide +kernel
theorem d6_inconsistencies_66 : decode b6_inconsistencies 66 = .ok (.invokevirtual 91, 3) := by decide +kernel
theorem d6_inconsistencies_69 : decode b6_inconsistencies 69 = .ok (.aload_n 0, 1) := by decide +kernel
theorem d6_inconsistencies_70 : decode b6_inconsistencies 70 = .ok (.iload_n 3, 1) := by decide +kernel
theorem d6_inconsistencies_71 : decode b6_inconsistencies 71 = .ok (.iconst 3, 1) := by decide +kernel
theorem d6_inconsistencies_72 : decode b6_inconsistencies 72 = .ok (.invokevirtual 91, 3) := by decide +kernel
theorem d6_inconsistencies_75 : decode b6_inconsistencies 75 = .ok (.invokevirtual 98, 3) := by decide +kernel
theorem d6_inconsistencies_78 : decode b6_inconsistencies 78 = .ok (.ifCond .eq 7, 3) := by decide +kernel
theorem d6_inconsistencies_81 : decode b6_inconsistencies 81 = .ok (.iconst 1, 1) := by decide +kernel
theorem d6_inconsistencies_82 : decode b6_inconsistencies 82 = .ok (.goto 4, 3) := by decide +kernel
theorem d6_inconsistencies_85 : decode b6_inconsistencies 85 = .ok (.iconst 0, 1) := by decide +kernel
theorem d6_inconsistencies_86 : decode b6_inconsistencies 86 = .ok (.iadd, 1) := by decide +kernel
theorem d6_inconsistencies_87 : decode b6_inconsistencies 87 = .ok (.istore_n 1, 1) := by decide +kernel
theorem d6_inconsistencies_88 : decode b6_inconsistencies 88 = .ok (.iinc 3 1, 3) := by decide +kernel
theorem d6_inconsistencies_91 : decode b6_inconsistencies 91 = .ok (.goto (-47), 3) := by decide +kernel
theorem d6_inconsistencies_94 : decode b6_inconsistencies 94 = .ok (.iinc 2 1, 3) := by decide +kernel
theorem d6_inconsistencies_97 : decode b6_inconsistencies 97 = .ok (.goto (-67), 3) := by decide +kernel
theorem d6_inconsistencies_100 : decode b6_inconsistencies 100 = .ok (.iload_n 1, 1) := by decide +kernel
theorem d6_inconsistencies_101 : decode b6_inconsistencies 101 = .ok (.ireturn, 1) := by decide +kernel
abbrev b6_book : ByteArray := prog_8_method_120_code
def y6_book : MethodName := ⟨"ChannelScheduleModel", "book", "(IZI)I"⟩
theorem w6_book : YV y6_book b6_book 5 (some .int) 3 := ⟨LW_i 1778 (by decide +kernel) (by decide +kernel), LW_i 1779 (by decide +kernel) (by decide +kernel), LW_i 120 (by decide +kernel) (by decide +kernel), LW_i 1780 (by decide +kernel) (by decide +kernel), by decide +kernel, by decide +kernel⟩
theorem d6_book_0 : decode b6_book 0 = .ok (.aload_n 0, 1) := by decide +kernel
theorem d6_book_1 : decode b6_book 1 = .ok (.iload_n 1, 1) := by decide +kernel
theorem d6_book_2 : decode b6_book 2 = .ok (.invokevirtual 268, 3) := by decide +kernel
theorem d6_book_5 : decode b6_book 5 = .ok (.ifCond .eq 18, 3) := by decide +kernel
theorem d6_book_8 : decode b6_book 8 = .ok (.iload_n 3, 1) := by decide +kernel
theorem d6_book_9 : decode b6_book 9 = .ok (.iconst 0, 1) := by decide +kernel
theorem d6_book_10 : decode b6_book 10 = .ok (.sipush 999, 3) := by decide +kernel
theorem d6_book_13 : decode b6_book 13 = .ok (.invokestatic 75, 3) := by decide +kernel
theorem d6_book_16 : decode b6_book 16 = .ok (.ifCond .eq 7, 3) := by decide +kernel
theorem d6_book_19 : decode b6_book 19 = .ok (.iconst 1, 1) := by decide +kernel
theorem d6_book_20 : decode b6_book 20 = .ok (.goto 4, 3) := by decide +kernel
theorem d6_book_23 : decode b6_book 23 = .ok (.iconst 0, 1) := by decide +kernel
theorem d6_book_24 : decode b6_book 24 = .ok (.istore 4, 2) := by decide +kernel
theorem d6_book_26 : decode b6_book 26 = .ok (.aload_n 0, 1) := by decide +kernel
theorem d6_book_27 : decode b6_book 27 = .ok (.aload_n 0, 1) := by decide +kernel
theorem d6_book_28 : decode b6_book 28 = .ok (.iload_n 1, 1) := by decide +kernel
theorem d6_book_29 : decode b6_book 29 = .ok (.invokevirtual 268, 3) := by decide +kernel
theorem d6_book_32 : decode b6_book 32 = .ok (.ifCond .ne 7, 3) := by decide +kernel
theorem d6_book_35 : decode b6_book 35 = .ok (.iconst 1, 1) := by decide +kernel
theorem d6_book_36 : decode b6_book 36 = .ok (.goto 4, 3) := by decide +kernel
theorem d6_book_39 : decode b6_book 39 = .ok (.iconst 0, 1) := by decide +kernel
theorem d6_book_40 : decode b6_book 40 = .ok (.iload_n 3, 1) := by decide +kernel
theorem d6_book_41 : decode b6_book 41 = .ok (.iconst 0, 1) := by decide +kernel
theorem d6_book_42 : decode b6_book 42 = .ok (.sipush 999, 3) := by decide +kernel
theorem d6_book_45 : decode b6_book 45 = .ok (.invokestatic 75, 3) := by decide +kernel
theorem d6_book_48 : decode b6_book 48 = .ok (.ifCond .ne 7, 3) := by decide +kernel
theorem d6_book_51 : decode b6_book 51 = .ok (.iconst 1, 1) := by decide +kernel
theorem d6_book_52 : decode b6_book 52 = .ok (.goto 4, 3) := by decide +kernel
theorem d6_book_55 : decode b6_book 55 = .ok (.iconst 0, 1) := by decide +kernel
theorem d6_book_56 : decode b6_book 56 = .ok (.iload 4, 2) := by decide +kernel
theorem d6_book_58 : decode b6_book 58 = .ok (.ifCond .eq 25, 3) := by decide +kernel
theorem d6_book_61 : decode b6_book 61 = .ok (.aload_n 0, 1) := by decide +kernel
theorem d6_book_62 : decode b6_book 62 = .ok (.iload_n 1, 1) := by decide +kernel
theorem d6_book_63 : decode b6_book 63 = .ok (.iload_n 2, 1) := by decide +kernel
theorem d6_book_64 : decode b6_book 64 = .ok (.ifCond .eq 7, 3) := by decide +kernel
theorem d6_book_67 : decode b6_book 67 = .ok (.iconst 1, 1) := by decide +kernel
theorem d6_book_68 : decode b6_book 68 = .ok (.goto 4, 3) := by decide +kernel
theorem d6_book_71 : decode b6_book 71 = .ok (.iconst 0, 1) := by decide +kernel
theorem d6_book_72 : decode b6_book 72 = .ok (.iload_n 3, 1) := by decide +kernel
theorem d6_book_73 : decode b6_book 73 = .ok (.invokevirtual 226, 3) := by decide +kernel
theorem d6_book_76 : decode b6_book 76 = .ok (.ifCond .ne 7, 3) := by decide +kernel
theorem d6_book_79 : decode b6_book 79 = .ok (.iconst 1, 1) := by decide +kernel
theorem d6_book_80 : decode b6_book 80 = .ok (.goto 4, 3) := by decide +kernel
theorem d6_book_83 : decode b6_book 83 = .ok (.iconst 0, 1) := by decide +kernel
theorem d6_book_84 : decode b6_book 84 = .ok (.invokevirtual 148, 3) := by decide +kernel
theorem d6_book_87 : decode b6_book 87 = .ok (.ifCond .eq 5, 3) := by decide +kernel
theorem d6_book_90 : decode b6_book 90 = .ok (.iconst 0, 1) := by decide +kernel
theorem d6_book_91 : decode b6_book 91 = .ok (.ireturn, 1) := by decide +kernel
theorem d6_book_92 : decode b6_book 92 = .ok (.aload_n 0, 1) := by decide +kernel
theorem d6_book_93 : decode b6_book 93 = .ok (.iconst 0, 1) := by decide +kernel
theorem d6_book_94 : decode b6_book 94 = .ok (.invokevirtual 259, 3) := by decide +kernel
theorem d6_book_97 : decode b6_book 97 = .ok (.aload_n 0, 1) := by decide +kernel
theorem d6_book_98 : decode b6_book 98 = .ok (.iload_n 1, 1) := by decide +kernel
theorem d6_book_99 : decode b6_book 99 = .ok (.iload_n 2, 1) := by decide +kernel
theorem d6_book_100 : decode b6_book 100 = .ok (.ifCond .eq 7, 3) := by decide +kernel
theorem d6_book_103 : decode b6_book 103 = .ok (.iconst 1, 1) := by decide +kernel
theorem d6_book_104 : decode b6_book 104 = .ok (.goto 4, 3) := by decide +kernel
theorem d6_book_107 : decode b6_book 107 = .ok (.iconst 0, 1) := by decide +kernel
theorem d6_book_108 : decode b6_book 108 = .ok (.iload_n 3, 1) := by decide +kernel
theorem d6_book_109 : decode b6_book 109 = .ok (.invokevirtual 120, 3) := by decide +kernel
theorem d6_book_112 : decode b6_book 112 = .ok (.iload_n 3, 1) := by decide +kernel
theorem d6_book_113 : decode b6_book 113 = .ok (.aload_n 0, 1) := by decide +kernel
theorem d6_book_114 : decode b6_book 114 = .ok (.iload_n 1, 1) := by decide +kernel
theorem d6_book_115 : decode b6_book 115 = .ok (.invokevirtual 94, 3) := by decide +kernel
theorem d6_book_118 : decode b6_book 118 = .ok (.iadd, 1) := by decide +kernel
theorem d6_book_119 : decode b6_book 119 = .ok (.ireturn, 1) := by decide +kernel
abbrev b6_request : ByteArray := prog_8_method_121_code
def y6_request : MethodName := ⟨"ChannelScheduleModel", "request", "(IZII)I"⟩
theorem w6_request : YV y6_request b6_request 7 (some .int) 4 := ⟨LW_i 1782 (by decide +kernel) (by decide +kernel), LW_i 1783 (by decide +kernel) (by decide +kernel), LW_i 120 (by decide +kernel) (by decide +kernel), LW_i 1784 (by decide +kernel) (by decide +kernel), by decide +kernel, by decide +kernel⟩
theorem d6_request_0 : decode b6_request 0 = .ok (.iload_n 3, 1) := by decide +kernel
theorem d6_request_1 : decode b6_request 1 = .ok (.iconst 0, 1) := by decide +kernel
theorem d6_request_2 : decode b6_request 2 = .ok (.sipush 999, 3) := by decide +kernel
theorem d6_request_5 : decode b6_request 5 = .ok (.invokestatic 75, 3) := by decide +kernel
theorem d6_request_8 : decode b6_request 8 = .ok (.ifCond .eq 19, 3) := by decide +kernel
theorem d6_request_11 : decode b6_request 11 = .ok (.iload 4, 2) := by decide +kernel
theorem d6_request_13 : decode b6_request 13 = .ok (.iload_n 3, 1) := by decide +kernel
theorem d6_request_14 : decode b6_request 14 = .ok (.sipush 999, 3) := by decide +kernel
theorem d6_request_17 : decode b6_request 17 = .ok (.invokestatic 75, 3) := by decide +kernel
theorem d6_request_20 : decode b6_request 20 = .ok (.ifCond .eq 7, 3) := by decide +kernel
theorem d6_request_23 : decode b6_request 23 = .ok (.iconst 1, 1) := by decide +kernel
theorem d6_request_24 : decode b6_request 24 = .ok (.goto 4, 3) := by decide +kernel
theorem d6_request_27 : decode b6_request 27 = .ok (.iconst 0, 1) := by decide +kernel
theorem d6_request_28 : decode b6_request 28 = .ok (.istore 5, 2) := by decide +kernel
theorem d6_request_30 : decode b6_request 30 = .ok (.aload_n 0, 1) := by decide +kernel
theorem d6_request_31 : decode b6_request 31 = .ok (.iload_n 1, 1) := by decide +kernel
theorem d6_request_32 : decode b6_request 32 = .ok (.invokevirtual 268, 3) := by decide +kernel
theorem d6_request_35 : decode b6_request 35 = .ok (.ifCond .eq 12, 3) := by decide +kernel
theorem d6_request_38 : decode b6_request 38 = .ok (.iload 5, 2) := by decide +kernel
theorem d6_request_40 : decode b6_request 40 = .ok (.ifCond .eq 7, 3) := by decide +kernel
theorem d6_request_43 : decode b6_request 43 = .ok (.iconst 1, 1) := by decide +kernel
theorem d6_request_44 : decode b6_request 44 = .ok (.goto 4, 3) := by decide +kernel
theorem d6_request_47 : decode b6_request 47 = .ok (.iconst 0, 1) := by decide +kernel
theorem d6_request_48 : decode b6_request 48 = .ok (.istore 6, 2) := by decide +kernel
theorem d6_request_50 : decode b6_request 50 = .ok (.aload_n 0, 1) := by decide +kernel
theorem d6_request_51 : decode b6_request 51 = .ok (.aload_n 0, 1) := by decide +kernel
theorem d6_request_52 : decode b6_request 52 = .ok (.iload_n 1, 1) := by decide +kernel
theorem d6_request_53 : decode b6_request 53 = .ok (.invokevirtual 268, 3) := by decide +kernel
theorem d6_request_56 : decode b6_request 56 = .ok (.ifCond .ne 7, 3) := by decide +kernel
theorem d6_request_59 : decode b6_request 59 = .ok (.iconst 1, 1) := by decide +kernel
theorem d6_request_60 : decode b6_request 60 = .ok (.goto 4, 3) := by decide +kernel
theorem d6_request_63 : decode b6_request 63 = .ok (.iconst 0, 1) := by decide +kernel
theorem d6_request_64 : decode b6_request 64 = .ok (.iload 5, 2) := by decide +kernel
theorem d6_request_66 : decode b6_request 66 = .ok (.ifCond .ne 7, 3) := by decide +kernel
theorem d6_request_69 : decode b6_request 69 = .ok (.iconst 1, 1) := by decide +kernel
theorem d6_request_70 : decode b6_request 70 = .ok (.goto 4, 3) := by decide +kernel
theorem d6_request_73 : decode b6_request 73 = .ok (.iconst 0, 1) := by decide +kernel
theorem d6_request_74 : decode b6_request 74 = .ok (.iload 6, 2) := by decide +kernel
theorem d6_request_76 : decode b6_request 76 = .ok (.ifCond .eq 27, 3) := by decide +kernel
theorem d6_request_79 : decode b6_request 79 = .ok (.aload_n 0, 1) := by decide +kernel
theorem d6_request_80 : decode b6_request 80 = .ok (.iload_n 1, 1) := by decide +kernel
theorem d6_request_81 : decode b6_request 81 = .ok (.iload_n 2, 1) := by decide +kernel
theorem d6_request_82 : decode b6_request 82 = .ok (.ifCond .eq 7, 3) := by decide +kernel
theorem d6_request_85 : decode b6_request 85 = .ok (.iconst 1, 1) := by decide +kernel
theorem d6_request_86 : decode b6_request 86 = .ok (.goto 4, 3) := by decide +kernel
theorem d6_request_89 : decode b6_request 89 = .ok (.iconst 0, 1) := by decide +kernel
theorem d6_request_90 : decode b6_request 90 = .ok (.iload_n 3, 1) := by decide +kernel
theorem d6_request_91 : decode b6_request 91 = .ok (.iload 4, 2) := by decide +kernel
theorem d6_request_93 : decode b6_request 93 = .ok (.invokevirtual 229, 3) := by decide +kernel
theorem d6_request_96 : decode b6_request 96 = .ok (.ifCond .ne 7, 3) := by decide +kernel
theorem d6_request_99 : decode b6_request 99 = .ok (.iconst 1, 1) := by decide +kernel
theorem d6_request_100 : decode b6_request 100 = .ok (.goto 4, 3) := by decide +kernel
theorem d6_request_103 : decode b6_request 103 = .ok (.iconst 0, 1) := by decide +kernel
theorem d6_request_104 : decode b6_request 104 = .ok (.invokevirtual 148, 3) := by decide +kernel
theorem d6_request_107 : decode b6_request 107 = .ok (.ifCond .eq 5, 3) := by decide +kernel
theorem d6_request_110 : decode b6_request 110 = .ok (.iconst 0, 1) := by decide +kernel
theorem d6_request_111 : decode b6_request 111 = .ok (.ireturn, 1) := by decide +kernel
theorem d6_request_112 : decode b6_request 112 = .ok (.aload_n 0, 1) := by decide +kernel
theorem d6_request_113 : decode b6_request 113 = .ok (.iconst 0, 1) := by decide +kernel
theorem d6_request_114 : decode b6_request 114 = .ok (.invokevirtual 259, 3) := by decide +kernel
theorem d6_request_117 : decode b6_request 117 = .ok (.aload_n 0, 1) := by decide +kernel
theorem d6_request_118 : decode b6_request 118 = .ok (.iload_n 1, 1) := by decide +kernel
theorem d6_request_119 : decode b6_request 119 = .ok (.iload_n 2, 1) := by decide +kernel
theorem d6_request_120 : decode b6_request 120 = .ok (.ifCond .eq 7, 3) := by decide +kernel
theorem d6_request_123 : decode b6_request 123 = .ok (.iconst 1, 1) := by decide +kernel
theorem d6_request_124 : decode b6_request 124 = .ok (.goto 4, 3) := by decide +kernel
theorem d6_request_127 : decode b6_request 127 = .ok (.iconst 0, 1) := by decide +kernel
theorem d6_request_128 : decode b6_request 128 = .ok (.iload_n 3, 1) := by decide +kernel
theorem d6_request_129 : decode b6_request 129 = .ok (.iload 4, 2) := by decide +kernel
theorem d6_request_131 : decode b6_request 131 = .ok (.invokevirtual 232, 3) := by decide +kernel
theorem d6_request_134 : decode b6_request 134 = .ok (.ireturn, 1) := by decide +kernel
abbrev b6_cancel : ByteArray := prog_8_method_122_code
def y6_cancel : MethodName := ⟨"ChannelScheduleModel", "cancel", "(I)I"⟩
theorem w6_cancel : YV y6_cancel b6_cancel 3 (some .int) 1 := ⟨LW_i 1786 (by decide +kernel) (by decide +kernel), LW_i 1787 (by decide +kernel) (by decide +kernel), LW_i 120 (by decide +kernel) (by decide +kernel), LW_i 1788 (by decide +kernel) (by decide +kernel), by decide +kernel, by decide +kernel⟩
theorem d6_cancel_0 : decode b6_cancel 0 = .ok (.aload_n 0, 1) := by decide +kernel
theorem d6_cancel_1 : decode b6_cancel 1 = .ok (.iload_n 1, 1) := by decide +kernel
theorem d6_cancel_2 : decode b6_cancel 2 = .ok (.invokevirtual 235, 3) := by decide +kernel
theorem d6_cancel_5 : decode b6_cancel 5 = .ok (.istore_n 2, 1) := by decide +kernel
theorem d6_cancel_6 : decode b6_cancel 6 = .ok (.aload_n 0, 1) := by decide +kernel
theorem d6_cancel_7 : decode b6_cancel 7 = .ok (.iload_n 2, 1) := by decide +kernel
theorem d6_cancel_8 : decode b6_cancel 8 = .ok (.ifCond .ne 7, 3) := by decide +kernel
theorem d6_cancel_11 : decode b6_cancel 11 = .ok (.iconst 1, 1) := by decide +kernel
theorem d6_cancel_12 : decode b6_cancel 12 = .ok (.goto 4, 3) := by decide +kernel
theorem d6_cancel_15 : decode b6_cancel 15 = .ok (.iconst 0, 1) := by decide +kernel
theorem d6_cancel_16 : decode b6_cancel 16 = .ok (.iload_n 2, 1) := by decide +kernel
theorem d6_cancel_17 : decode b6_cancel 17 = .ok (.ifCond .eq 15, 3) := by decide +kernel
theorem d6_cancel_20 : decode b6_cancel 20 = .ok (.aload_n 0, 1) := by decide +kernel
theorem d6_cancel_21 : decode b6_cancel 21 = .ok (.iload_n 1, 1) := by decide +kernel
theorem d6_cancel_22 : decode b6_cancel 22 = .ok (.invokevirtual 137, 3) := by decide +kernel
theorem d6_cancel_25 : decode b6_cancel 25 = .ok (.ifCond .ne 7, 3) := by decide +kernel
theorem d6_cancel_28 : decode b6_cancel 28 = .ok (.iconst 1, 1) := by decide +kernel
theorem d6_cancel_29 : decode b6_cancel 29 = .ok (.goto 4, 3) := by decide +kernel
theorem d6_cancel_32 : decode b6_cancel 32 = .ok (.iconst 0, 1) := by decide +kernel
theorem d6_cancel_33 : decode b6_cancel 33 = .ok (.iconst 0, 1) := by decide +kernel
theorem d6_cancel_34 : decode b6_cancel 34 = .ok (.invokevirtual 148, 3) := by decide +kernel
theorem d6_cancel_37 : decode b6_cancel 37 = .ok (.ifCond .eq 5, 3) := by decide +kernel
theorem d6_cancel_40 : decode b6_cancel 40 = .ok (.iconst 0, 1) := by decide +kernel
theorem d6_cancel_41 : decode b6_cancel 41 = .ok (.ireturn, 1) := by decide +kernel
theorem d6_cancel_42 : decode b6_cancel 42 = .ok (.aload_n 0, 1) := by decide +kernel
theorem d6_cancel_43 : decode b6_cancel 43 = .ok (.iconst 0, 1) := by decide +kernel
theorem d6_cancel_44 : decode b6_cancel 44 = .ok (.invokevirtual 259, 3) := by decide +kernel
theorem d6_cancel_47 : decode b6_cancel 47 = .ok (.aload_n 0, 1) := by decide +kernel
theorem d6_cancel_48 : decode b6_cancel 48 = .ok (.iload_n 1, 1) := by decide +kernel
theorem d6_cancel_49 : decode b6_cancel 49 = .ok (.invokevirtual 238, 3) := by decide +kernel
theorem d6_cancel_52 : decode b6_cancel 52 = .ok (.ireturn, 1) := by decide +kernel
abbrev b6_moveBooking : ByteArray := prog_8_method_123_code
def y6_moveBooking : MethodName := ⟨"ChannelScheduleModel", "moveBooking", "(II)I"⟩
theorem w6_moveBooking : YV y6_moveBooking b6_moveBooking 4 (some .int) 2 := ⟨LW_i 1790 (by decide +kernel) (by decide +kernel), LW_i 1791 (by decide +kernel) (by decide +kernel), LW_i 120 (by decide +kernel) (by decide +kernel), LW_i 1792 (by decide +kernel) (by decide +kernel), by decide +kernel, by decide +kernel⟩
theorem d6_moveBooking_0 : decode b6_moveBooking 0 = .ok (.aload_n 0, 1) := by decide +kernel
theorem d6_moveBooking_1 : decode b6_moveBooking 1 = .ok (.iload_n 1, 1) := by decide +kernel
theorem d6_moveBooking_2 : decode b6_moveBooking 2 = .ok (.invokevirtual 235, 3) := by decide +kernel
theorem d6_moveBooking_5 : decode b6_moveBooking 5 = .ok (.ifCond .eq 18, 3) := by decide +kernel
theorem d6_moveBooking_8 : decode b6_moveBooking 8 = .ok (.iload_n 2, 1) := by decide +kernel
theorem d6_moveBooking_9 : decode b6_moveBooking 9 = .ok (.iconst 0, 1) := by decide +kernel
theorem d6_moveBooking_10 : decode b6_moveBooking 10 = .ok (.sipush 999, 3) := by decide +kernel
theorem d6_moveBooking_13 : decode b6_moveBooking 13 = .ok (.invokestatic 75, 3) := by decide +kernel
theorem d6_moveBooking_16 : decode b6_moveBooking 16 = .ok (.ifCond .eq 7, 3) := by decide +kernel
theorem d6_moveBooking_19 : decode b6_moveBooking 19 = .ok (.iconst 1, 1) := by decide +kernel
theorem d6_moveBooking_20 : decode b6_moveBooking 20 = .ok (.goto 4, 3) := by decide +kernel
theorem d6_moveBooking_23 : decode b6_moveBooking 23 = .ok (.iconst 0, 1) := by decide +kernel
theorem d6_moveBooking_24 : decode b6_moveBooking 24 = .ok (.istore_n 3, 1) := by decide +kernel
theorem d6_moveBooking_25 : decode b6_moveBooking 25 = .ok (.aload_n 0, 1) := by decide +kernel
theorem d6_moveBooking_26 : decode b6_moveBooking 26 = .ok (.aload_n 0, 1) := by decide +kernel
theorem d6_moveBooking_27 : decode b6_moveBooking 27 = .ok (.iload_n 1, 1) := by decide +kernel
theorem d6_moveBooking_28 : decode b6_moveBooking 28 = .ok (.invokevirtual 235, 3) := by decide +kernel
theorem d6_moveBooking_31 : decode b6_moveBooking 31 = .ok (.ifCond .ne 7, 3) := by decide +kernel
theorem d6_moveBooking_34 : decode b6_moveBooking 34 = .ok (.iconst 1, 1) := by decide +kernel
theorem d6_moveBooking_35 : decode b6_moveBooking 35 = .ok (.goto 4, 3) := by decide +kernel
theorem d6_moveBooking_38 : decode b6_moveBooking 38 = .ok (.iconst 0, 1) := by decide +kernel
theorem d6_moveBooking_39 : decode b6_moveBooking 39 = .ok (.iload_n 2, 1) := by decide +kernel
theorem d6_moveBooking_40 : decode b6_moveBooking 40 = .ok (.iconst 0, 1) := by decide +kernel
theorem d6_moveBooking_41 : decode b6_moveBooking 41 = .ok (.sipush 999, 3) := by decide +kernel
theorem d6_moveBooking_44 : decode b6_moveBooking 44 = .ok (.invokestatic 75, 3) := by decide +kernel
theorem d6_moveBooking_47 : decode b6_moveBooking 47 = .ok (.ifCond .ne 7, 3) := by decide +kernel
theorem d6_moveBooking_50 : decode b6_moveBooking 50 = .ok (.iconst 1, 1) := by decide +kernel
theorem d6_moveBooking_51 : decode b6_moveBooking 51 = .ok (.goto 4, 3) := by decide +kernel
theorem d6_moveBooking_54 : decode b6_moveBooking 54 = .ok (.iconst 0, 1) := by decide +kernel
theorem d6_moveBooking_55 : decode b6_moveBooking 55 = .ok (.iload_n 3, 1) := by decide +kernel
theorem d6_moveBooking_56 : decode b6_moveBooking 56 = .ok (.ifCond .eq 16, 3) := by decide +kernel
theorem d6_moveBooking_59 : decode b6_moveBooking 59 = .ok (.aload_n 0, 1) := by decide +kernel
theorem d6_moveBooking_60 : decode b6_moveBooking 60 = .ok (.iload_n 1, 1) := by decide +kernel
theorem d6_moveBooking_61 : decode b6_moveBooking 61 = .ok (.iload_n 2, 1) := by decide +kernel
theorem d6_moveBooking_62 : decode b6_moveBooking 62 = .ok (.invokevirtual 241, 3) := by decide +kernel
theorem d6_moveBooking_65 : decode b6_moveBooking 65 = .ok (.ifCond .eq 7, 3) := by decide +kernel
theorem d6_moveBooking_68 : decode b6_moveBooking 68 = .ok (.iconst 1, 1) := by decide +kernel
theorem d6_moveBooking_69 : decode b6_moveBooking 69 = .ok (.goto 4, 3) := by decide +kernel
theorem d6_moveBooking_72 : decode b6_moveBooking 72 = .ok (.iconst 0, 1) := by decide +kernel
theorem d6_moveBooking_73 : decode b6_moveBooking 73 = .ok (.invokevirtual 148, 3) := by decide +kernel
theorem d6_moveBooking_76 : decode b6_moveBooking 76 = .ok (.ifCond .eq 5, 3) := by decide +kernel
theorem d6_moveBooking_79 : decode b6_moveBooking 79 = .ok (.iconst 0, 1) := by decide +kernel
theorem d6_moveBooking_80 : decode b6_moveBooking 80 = .ok (.ireturn, 1) := by decide +kernel
theorem d6_moveBooking_81 : decode b6_moveBooking 81 = .ok (.aload_n 0, 1) := by decide +kernel
theorem d6_moveBooking_82 : decode b6_moveBooking 82 = .ok (.iconst 0, 1) := by decide +kernel
theorem d6_moveBooking_83 : decode b6_moveBooking 83 = .ok (.invokevirtual 259, 3) := by decide +kernel
theorem d6_moveBooking_86 : decode b6_moveBooking 86 = .ok (.aload_n 0, 1) := by decide +kernel
theorem d6_moveBooking_87 : decode b6_moveBooking 87 = .ok (.iload_n 1, 1) := by decide +kernel
theorem d6_moveBooking_88 : decode b6_moveBooking 88 = .ok (.iload_n 2, 1) := by decide +kernel
theorem d6_moveBooking_89 : decode b6_moveBooking 89 = .ok (.invokevirtual 244, 3) := by decide +kernel
theorem d6_moveBooking_92 : decode b6_moveBooking 92 = .ok (.ireturn, 1) := by decide +kernel
abbrev b6_withdraw : ByteArray := prog_8_method_124_code
def y6_withdraw : MethodName := ⟨"ChannelScheduleModel", "withdraw", "(I)I"⟩
theorem w6_withdraw : YV y6_withdraw b6_withdraw 3 (some .int) 1 := ⟨LW_i 1794 (by decide +kernel) (by decide +kernel), LW_i 1795 (by decide +kernel) (by decide +kernel), LW_i 120 (by decide +kernel) (by decide +kernel), LW_i 1796 (by decide +kernel) (by decide +kernel), by decide +kernel, by decide +kernel⟩
theorem d6_withdraw_0 : decode b6_withdraw 0 = .ok (.aload_n 0, 1) := by decide +kernel
theorem d6_withdraw_1 : decode b6_withdraw 1 = .ok (.aload_n 0, 1) := by decide +kernel
theorem d6_withdraw_2 : decode b6_withdraw 2 = .ok (.iload_n 1, 1) := by decide +kernel
theorem d6_withdraw_3 : decode b6_withdraw 3 = .ok (.invokevirtual 247, 3) := by decide +kernel
theorem d6_withdraw_6 : decode b6_withdraw 6 = .ok (.ifCond .ne 7, 3) := by decide +kernel
theorem d6_withdraw_9 : decode b6_withdraw 9 = .ok (.iconst 1, 1) := by decide +kernel
theorem d6_withdraw_10 : decode b6_withdraw 10 = .ok (.goto 4, 3) := by decide +kernel
theorem d6_withdraw_13 : decode b6_withdraw 13 = .ok (.iconst 0, 1) := by decide +kernel
theorem d6_withdraw_14 : decode b6_withdraw 14 = .ok (.iconst 0, 1) := by decide +kernel
theorem d6_withdraw_15 : decode b6_withdraw 15 = .ok (.iconst 0, 1) := by decide +kernel
theorem d6_withdraw_16 : decode b6_withdraw 16 = .ok (.invokevirtual 148, 3) := by decide +kernel
theorem d6_withdraw_19 : decode b6_withdraw 19 = .ok (.ifCond .eq 5, 3) := by decide +kernel
theorem d6_withdraw_22 : decode b6_withdraw 22 = .ok (.iconst 0, 1) := by decide +kernel
theorem d6_withdraw_23 : decode b6_withdraw 23 = .ok (.ireturn, 1) := by decide +kernel
theorem d6_withdraw_24 : decode b6_withdraw 24 = .ok (.aload_n 0, 1) := by decide +kernel
theorem d6_withdraw_25 : decode b6_withdraw 25 = .ok (.iconst 0, 1) := by decide +kernel
theorem d6_withdraw_26 : decode b6_withdraw 26 = .ok (.invokevirtual 259, 3) := by decide +kernel
theorem d6_withdraw_29 : decode b6_withdraw 29 = .ok (.aload_n 0, 1) := by decide +kernel
theorem d6_withdraw_30 : decode b6_withdraw 30 = .ok (.iload_n 1, 1) := by decide +kernel
theorem d6_withdraw_31 : decode b6_withdraw 31 = .ok (.iconst 0, 1) := by decide +kernel
theorem d6_withdraw_32 : decode b6_withdraw 32 = .ok (.invokevirtual 114, 3) := by decide +kernel
theorem d6_withdraw_35 : decode b6_withdraw 35 = .ok (.istore_n 2, 1) := by decide +kernel
theorem d6_withdraw_36 : decode b6_withdraw 36 = .ok (.aload_n 0, 1) := by decide +kernel
theorem d6_withdraw_37 : decode b6_withdraw 37 = .ok (.iload_n 1, 1) := by decide +kernel
theorem d6_withdraw_38 : decode b6_withdraw 38 = .ok (.invokevirtual 124, 3) := by decide +kernel
theorem d6_withdraw_41 : decode b6_withdraw 41 = .ok (.iload_n 2, 1) := by decide +kernel
theorem d6_withdraw_42 : decode b6_withdraw 42 = .ok (.ireturn, 1) := by decide +kernel
abbrev b6_setThickness : ByteArray := prog_8_method_125_code
def y6_setThickness : MethodName := ⟨"ChannelScheduleModel", "setThickness", "(I)I"⟩
theorem w6_setThickness : YV y6_setThickness b6_setThickness 2 (some .int) 1 := ⟨LW_i 1798 (by decide +kernel) (by decide +kernel), LW_i 1799 (by decide +kernel) (by decide +kernel), LW_i 120 (by decide +kernel) (by decide +kernel), LW_i 1800 (by decide +kernel) (by decide +kernel), by decide +kernel, by decide +kernel⟩
theorem d6_setThickness_0 : decode b6_setThickness 0 = .ok (.aload_n 0, 1) := by decide +kernel
theorem d6_setThickness_1 : decode b6_setThickness 1 = .ok (.iload_n 1, 1) := by decide +kernel
theorem d6_setThickness_2 : decode b6_setThickness 2 = .ok (.iconst 0, 1) := by decide +kernel
theorem d6_setThickness_3 : decode b6_setThickness 3 = .ok (.bipush 9, 2) := by decide +kernel
theorem d6_setThickness_5 : decode b6_setThickness 5 = .ok (.invokestatic 75, 3) := by decide +kernel
theorem d6_setThickness_8 : decode b6_setThickness 8 = .ok (.ifCond .ne 7, 3) := by decide +kernel
theorem d6_setThickness_11 : decode b6_setThickness 11 = .ok (.iconst 1, 1) := by decide +kernel
theorem d6_setThickness_12 : decode b6_setThickness 12 = .ok (.goto 4, 3) := by decide +kernel
theorem d6_setThickness_15 : decode b6_setThickness 15 = .ok (.iconst 0, 1) := by decide +kernel
theorem d6_setThickness_16 : decode b6_setThickness 16 = .ok (.iconst 0, 1) := by decide +kernel
theorem d6_setThickness_17 : decode b6_setThickness 17 = .ok (.iconst 0, 1) := by decide +kernel
theorem d6_setThickness_18 : decode b6_setThickness 18 = .ok (.invokevirtual 148, 3) := by decide +kernel
theorem d6_setThickness_21 : decode b6_setThickness 21 = .ok (.ifCond .eq 5, 3) := by decide +kernel
theorem d6_setThickness_24 : decode b6_setThickness 24 = .ok (.iconst 0, 1) := by decide +kernel
theorem d6_setThickness_25 : decode b6_setThickness 25 = .ok (.ireturn, 1) := by decide +kernel
theorem d6_setThickness_26 : decode b6_setThickness 26 = .ok (.aload_n 0, 1) := by decide +kernel
theorem d6_setThickness_27 : decode b6_setThickness 27 = .ok (.iconst 0, 1) := by decide +kernel
theorem d6_setThickness_28 : decode b6_setThickness 28 = .ok (.invokevirtual 259, 3) := by decide +kernel
theorem d6_setThickness_31 : decode b6_setThickness 31 = .ok (.aload_n 0, 1) := by decide +kernel
theorem d6_setThickness_32 : decode b6_setThickness 32 = .ok (.iload_n 1, 1) := by decide +kernel
theorem d6_setThickness_33 : decode b6_setThickness 33 = .ok (.invokevirtual 250, 3) := by decide +kernel
theorem d6_setThickness_36 : decode b6_setThickness 36 = .ok (.ireturn, 1) := by decide +kernel
abbrev b6_advance : ByteArray := prog_8_method_126_code
def y6_advance : MethodName := ⟨"ChannelScheduleModel", "advance", "(I)I"⟩
theorem w6_advance : YV y6_advance b6_advance 3 (some .int) 1 := ⟨LW_i 1802 (by decide +kernel) (by decide +kernel), LW_i 1803 (by decide +kernel) (by decide +kernel), LW_i 120 (by decide +kernel) (by decide +kernel), LW_i 1804 (by decide +kernel) (by decide +kernel), by decide +kernel, by decide +kernel⟩
theorem d6_advance_0 : decode b6_advance 0 = .ok (.iload_n 1, 1) := by decide +kernel
theorem d6_advance_1 : decode b6_advance 1 = .ok (.iconst 1, 1) := by decide +kernel
theorem d6_advance_2 : decode b6_advance 2 = .ok (.sipush 500, 3) := by decide +kernel
theorem d6_advance_5 : decode b6_advance 5 = .ok (.invokestatic 75, 3) := by decide +kernel
theorem d6_advance_8 : decode b6_advance 8 = .ok (.istore_n 2, 1) := by decide +kernel
theorem d6_advance_9 : decode b6_advance 9 = .ok (.aload_n 0, 1) := by decide +kernel
theorem d6_advance_10 : decode b6_advance 10 = .ok (.iload_n 2, 1) := by decide +kernel
theorem d6_advance_11 : decode b6_advance 11 = .ok (.ifCond .ne 7, 3) := by decide +kernel
theorem d6_advance_14 : decode b6_advance 14 = .ok (.iconst 1, 1) := by decide +kernel
theorem d6_advance_15 : decode b6_advance 15 = .ok (.goto 4, 3) := by decide +kernel
theorem d6_advance_18 : decode b6_advance 18 = .ok (.iconst 0, 1) := by decide +kernel
theorem d6_advance_19 : decode b6_advance 19 = .ok (.iload_n 2, 1) := by decide +kernel
theorem d6_advance_20 : decode b6_advance 20 = .ok (.ifCond .eq 21, 3) := by decide +kernel
theorem d6_advance_23 : decode b6_advance 23 = .ok (.aload_n 0, 1) := by decide +kernel
theorem d6_advance_24 : decode b6_advance 24 = .ok (.getfield 13, 3) := by decide +kernel
theorem d6_advance_27 : decode b6_advance 27 = .ok (.iconst 3, 1) := by decide +kernel
theorem d6_advance_28 : decode b6_advance 28 = .ok (.iaload, 1) := by decide +kernel
theorem d6_advance_29 : decode b6_advance 29 = .ok (.iload_n 1, 1) := by decide +kernel
theorem d6_advance_30 : decode b6_advance 30 = .ok (.iadd, 1) := by decide +kernel
theorem d6_advance_31 : decode b6_advance 31 = .ok (.sipush 1200, 3) := by decide +kernel
theorem d6_advance_34 : decode b6_advance 34 = .ok (.if_icmp .le 7, 3) := by decide +kernel
theorem d6_advance_37 : decode b6_advance 37 = .ok (.iconst 1, 1) := by decide +kernel
theorem d6_advance_38 : decode b6_advance 38 = .ok (.goto 4, 3) := by decide +kernel
theorem d6_advance_41 : decode b6_advance 41 = .ok (.iconst 0, 1) := by decide +kernel
theorem d6_advance_42 : decode b6_advance 42 = .ok (.iconst 0, 1) := by decide +kernel
theorem d6_advance_43 : decode b6_advance 43 = .ok (.invokevirtual 148, 3) := by decide +kernel
theorem d6_advance_46 : decode b6_advance 46 = .ok (.ifCond .eq 5, 3) := by decide +kernel
theorem d6_advance_49 : decode b6_advance 49 = .ok (.iconst 0, 1) := by decide +kernel
theorem d6_advance_50 : decode b6_advance 50 = .ok (.ireturn, 1) := by decide +kernel
theorem d6_advance_51 : decode b6_advance 51 = .ok (.aload_n 0, 1) := by decide +kernel
theorem d6_advance_52 : decode b6_advance 52 = .ok (.iconst 0, 1) := by decide +kernel
theorem d6_advance_53 : decode b6_advance 53 = .ok (.invokevirtual 259, 3) := by decide +kernel
theorem d6_advance_56 : decode b6_advance 56 = .ok (.aload_n 0, 1) := by decide +kernel
theorem d6_advance_57 : decode b6_advance 57 = .ok (.iload_n 1, 1) := by decide +kernel
theorem d6_advance_58 : decode b6_advance 58 = .ok (.invokevirtual 253, 3) := by decide +kernel
theorem d6_advance_61 : decode b6_advance 61 = .ok (.ireturn, 1) := by decide +kernel
abbrev b6_undo : ByteArray := prog_8_method_127_code
def y6_undo : MethodName := ⟨"ChannelScheduleModel", "undo", "()I"⟩
theorem w6_undo : YV y6_undo b6_undo 1 (some .int) 0 := ⟨LW_i 1806 (by decide +kernel) (by decide +kernel), LW_i 1807 (by decide +kernel) (by decide +kernel), LW_i 120 (by decide +kernel) (by decide +kernel), LW_i 1808 (by decide +kernel) (by decide +kernel), by decide +kernel, by decide +kernel⟩
theorem d6_undo_0 : decode b6_undo 0 = .ok (.aload_n 0, 1) := by decide +kernel
theorem d6_undo_1 : decode b6_undo 1 = .ok (.aload_n 0, 1) := by decide +kernel
theorem d6_undo_2 : decode b6_undo 2 = .ok (.getfield 21, 3) := by decide +kernel
theorem d6_undo_5 : decode b6_undo 5 = .ok (.ifCond .ne 7, 3) := by decide +kernel
theorem d6_undo_8 : decode b6_undo 8 = .ok (.iconst 1, 1) := by decide +kernel
theorem d6_undo_9 : decode b6_undo 9 = .ok (.goto 4, 3) := by decide +kernel
theorem d6_undo_12 : decode b6_undo 12 = .ok (.iconst 0, 1) := by decide +kernel
theorem d6_undo_13 : decode b6_undo 13 = .ok (.iconst 0, 1) := by decide +kernel
theorem d6_undo_14 : decode b6_undo 14 = .ok (.iconst 0, 1) := by decide +kernel
theorem d6_undo_15 : decode b6_undo 15 = .ok (.invokevirtual 148, 3) := by decide +kernel
theorem d6_undo_18 : decode b6_undo 18 = .ok (.ifCond .eq 5, 3) := by decide +kernel
theorem d6_undo_21 : decode b6_undo 21 = .ok (.iconst 0, 1) := by decide +kernel
theorem d6_undo_22 : decode b6_undo 22 = .ok (.ireturn, 1) := by decide +kernel
theorem d6_undo_23 : decode b6_undo 23 = .ok (.aload_n 0, 1) := by decide +kernel
theorem d6_undo_24 : decode b6_undo 24 = .ok (.aload_n 0, 1) := by decide +kernel
theorem d6_undo_25 : decode b6_undo 25 = .ok (.getfield 21, 3) := by decide +kernel
theorem d6_undo_28 : decode b6_undo 28 = .ok (.iconst 0, 1) := by decide +kernel
theorem d6_undo_29 : decode b6_undo 29 = .ok (.invokevirtual 79, 3) := by decide +kernel
theorem d6_undo_32 : decode b6_undo 32 = .ok (.aload_n 0, 1) := by decide +kernel
theorem d6_undo_33 : decode b6_undo 33 = .ok (.dup, 1) := by decide +kernel
theorem d6_undo_34 : decode b6_undo 34 = .ok (.getfield 21, 3) := by decide +kernel
theorem d6_undo_37 : decode b6_undo 37 = .ok (.iconst 1, 1) := by decide +kernel
theorem d6_undo_38 : decode b6_undo 38 = .ok (.isub, 1) := by decide +kernel
theorem d6_undo_39 : decode b6_undo 39 = .ok (.putfield 21, 3) := by decide +kernel
theorem d6_undo_42 : decode b6_undo 42 = .ok (.aload_n 0, 1) := by decide +kernel
theorem d6_undo_43 : decode b6_undo 43 = .ok (.getfield 21, 3) := by decide +kernel
theorem d6_undo_46 : decode b6_undo 46 = .ok (.ireturn, 1) := by decide +kernel
abbrev b6_save : ByteArray := prog_8_method_128_code
def y6_save : MethodName := ⟨"ChannelScheduleModel", "save", "(I)I"⟩
theorem w6_save : YV y6_save b6_save 2 (some .int) 1 := ⟨LW_i 1810 (by decide +kernel) (by decide +kernel), LW_i 1811 (by decide +kernel) (by decide +kernel), LW_i 120 (by decide +kernel) (by decide +kernel), LW_i 1812 (by decide +kernel) (by decide +kernel), by decide +kernel, by decide +kernel⟩
theorem d6_save_0 : decode b6_save 0 = .ok (.aload_n 0, 1) := by decide +kernel
theorem d6_save_1 : decode b6_save 1 = .ok (.iload_n 1, 1) := by decide +kernel
theorem d6_save_2 : decode b6_save 2 = .ok (.iconst 0, 1) := by decide +kernel
theorem d6_save_3 : decode b6_save 3 = .ok (.iconst 1, 1) := by decide +kernel
theorem d6_save_4 : decode b6_save 4 = .ok (.invokestatic 75, 3) := by decide +kernel
theorem d6_save_7 : decode b6_save 7 = .ok (.ifCond .ne 7, 3) := by decide +kernel
theorem d6_save_10 : decode b6_save 10 = .ok (.iconst 1, 1) := by decide +kernel
theorem d6_save_11 : decode b6_save 11 = .ok (.goto 4, 3) := by decide +kernel
theorem d6_save_14 : decode b6_save 14 = .ok (.iconst 0, 1) := by decide +kernel
theorem d6_save_15 : decode b6_save 15 = .ok (.iconst 0, 1) := by decide +kernel
theorem d6_save_16 : decode b6_save 16 = .ok (.iconst 0, 1) := by decide +kernel
theorem d6_save_17 : decode b6_save 17 = .ok (.invokevirtual 148, 3) := by decide +kernel
theorem d6_save_20 : decode b6_save 20 = .ok (.ifCond .eq 5, 3) := by decide +kernel
theorem d6_save_23 : decode b6_save 23 = .ok (.iconst 0, 1) := by decide +kernel
theorem d6_save_24 : decode b6_save 24 = .ok (.ireturn, 1) := by decide +kernel
theorem d6_save_25 : decode b6_save 25 = .ok (.aload_n 0, 1) := by decide +kernel
theorem d6_save_26 : decode b6_save 26 = .ok (.iconst 0, 1) := by decide +kernel
theorem d6_save_27 : decode b6_save 27 = .ok (.bipush 7, 2) := by decide +kernel
theorem d6_save_29 : decode b6_save 29 = .ok (.iload_n 1, 1) := by decide +kernel
theorem d6_save_30 : decode b6_save 30 = .ok (.iadd, 1) := by decide +kernel
theorem d6_save_31 : decode b6_save 31 = .ok (.invokevirtual 79, 3) := by decide +kernel
theorem d6_save_34 : decode b6_save 34 = .ok (.aload_n 0, 1) := by decide +kernel
theorem d6_save_35 : decode b6_save 35 = .ok (.getfield 17, 3) := by decide +kernel
theorem d6_save_38 : decode b6_save 38 = .ok (.iload_n 1, 1) := by decide +kernel
theorem d6_save_39 : decode b6_save 39 = .ok (.iconst 1, 1) := by decide +kernel
theorem d6_save_40 : decode b6_save 40 = .ok (.bastore, 1) := by decide +kernel
theorem d6_save_41 : decode b6_save 41 = .ok (.aload_n 0, 1) := by decide +kernel
theorem d6_save_42 : decode b6_save 42 = .ok (.getfield 13, 3) := by decide +kernel
theorem d6_save_45 : decode b6_save 45 = .ok (.iconst 5, 1) := by decide +kernel
theorem d6_save_46 : decode b6_save 46 = .ok (.iaload, 1) := by decide +kernel
theorem d6_save_47 : decode b6_save 47 = .ok (.ireturn, 1) := by decide +kernel
abbrev b6_restore : ByteArray := prog_8_method_129_code
def y6_restore : MethodName := ⟨"ChannelScheduleModel", "restore", "(I)I"⟩
theorem w6_restore : YV y6_restore b6_restore 3 (some .int) 1 := ⟨LW_i 1814 (by decide +kernel) (by decide +kernel), LW_i 1815 (by decide +kernel) (by decide +kernel), LW_i 120 (by decide +kernel) (by decide +kernel), LW_i 1816 (by decide +kernel) (by decide +kernel), by decide +kernel, by decide +kernel⟩
theorem d6_restore_0 : decode b6_restore 0 = .ok (.iload_n 1, 1) := by decide +kernel
theorem d6_restore_1 : decode b6_restore 1 = .ok (.iconst 0, 1) := by decide +kernel
theorem d6_restore_2 : decode b6_restore 2 = .ok (.iconst 1, 1) := by decide +kernel
theorem d6_restore_3 : decode b6_restore 3 = .ok (.invokestatic 75, 3) := by decide +kernel
theorem d6_restore_6 : decode b6_restore 6 = .ok (.istore_n 2, 1) := by decide +kernel
theorem d6_restore_7 : decode b6_restore 7 = .ok (.aload_n 0, 1) := by decide +kernel
theorem d6_restore_8 : decode b6_restore 8 = .ok (.iload_n 2, 1) := by decide +kernel
theorem d6_restore_9 : decode b6_restore 9 = .ok (.ifCond .ne 7, 3) := by decide +kernel
theorem d6_restore_12 : decode b6_restore 12 = .ok (.iconst 1, 1) := by decide +kernel
theorem d6_restore_13 : decode b6_restore 13 = .ok (.goto 4, 3) := by decide +kernel
theorem d6_restore_16 : decode b6_restore 16 = .ok (.iconst 0, 1) := by decide +kernel
theorem d6_restore_17 : decode b6_restore 17 = .ok (.iload_n 2, 1) := by decide +kernel
theorem d6_restore_18 : decode b6_restore 18 = .ok (.ifCond .eq 16, 3) := by decide +kernel
theorem d6_restore_21 : decode b6_restore 21 = .ok (.aload_n 0, 1) := by decide +kernel
theorem d6_restore_22 : decode b6_restore 22 = .ok (.getfield 17, 3) := by decide +kernel
theorem d6_restore_25 : decode b6_restore 25 = .ok (.iload_n 1, 1) := by decide +kernel
theorem d6_restore_26 : decode b6_restore 26 = .ok (.baload, 1) := by decide +kernel
theorem d6_restore_27 : decode b6_restore 27 = .ok (.ifCond .ne 7, 3) := by decide +kernel
theorem d6_restore_30 : decode b6_restore 30 = .ok (.iconst 1, 1) := by decide +kernel
theorem d6_restore_31 : decode b6_restore 31 = .ok (.goto 4, 3) := by decide +kernel
theorem d6_restore_34 : decode b6_restore 34 = .ok (.iconst 0, 1) := by decide +kernel
theorem d6_restore_35 : decode b6_restore 35 = .ok (.iconst 0, 1) := by decide +kernel
theorem d6_restore_36 : decode b6_restore 36 = .ok (.invokevirtual 148, 3) := by decide +kernel
theorem d6_restore_39 : decode b6_restore 39 = .ok (.ifCond .eq 5, 3) := by decide +kernel
theorem d6_restore_42 : decode b6_restore 42 = .ok (.iconst 0, 1) := by decide +kernel
theorem d6_restore_43 : decode b6_restore 43 = .ok (.ireturn, 1) := by decide +kernel
theorem d6_restore_44 : decode b6_restore 44 = .ok (.aload_n 0, 1) := by decide +kernel
theorem d6_restore_45 : decode b6_restore 45 = .ok (.bipush 7, 2) := by decide +kernel
theorem d6_restore_47 : decode b6_restore 47 = .ok (.iload_n 1, 1) := by decide +kernel
theorem d6_restore_48 : decode b6_restore 48 = .ok (.iadd, 1) := by decide +kernel
theorem d6_restore_49 : decode b6_restore 49 = .ok (.iconst 0, 1) := by decide +kernel
theorem d6_restore_50 : decode b6_restore 50 = .ok (.invokevirtual 79, 3) := by decide +kernel
theorem d6_restore_53 : decode b6_restore 53 = .ok (.aload_n 0, 1) := by decide +kernel
theorem d6_restore_54 : decode b6_restore 54 = .ok (.iconst 0, 1) := by decide +kernel
theorem d6_restore_55 : decode b6_restore 55 = .ok (.putfield 21, 3) := by decide +kernel
theorem d6_restore_58 : decode b6_restore 58 = .ok (.aload_n 0, 1) := by decide +kernel
theorem d6_restore_59 : decode b6_restore 59 = .ok (.getfield 13, 3) := by decide +kernel
theorem d6_restore_62 : decode b6_restore 62 = .ok (.iconst 5, 1) := by decide +kernel
theorem d6_restore_63 : decode b6_restore 63 = .ok (.iaload, 1) := by decide +kernel
theorem d6_restore_64 : decode b6_restore 64 = .ok (.ireturn, 1) := by decide +kernel
abbrev b6_put : ByteArray := prog_8_method_130_code
def y6_put : MethodName := ⟨"ChannelScheduleModel", "put", "(I)V"⟩
theorem w6_put : YV y6_put b6_put 2 none 1 := ⟨LW_i 1823 (by decide +kernel) (by decide +kernel), LW_i 107 (by decide +kernel) (by decide +kernel), LW_i 120 (by decide +kernel) (by decide +kernel), LW_i 1824 (by decide +kernel) (by decide +kernel), by decide +kernel, by decide +kernel⟩
theorem d6_put_0 : decode b6_put 0 = .ok (.aload_n 0, 1) := by decide +kernel
theorem d6_put_1 : decode b6_put 1 = .ok (.getfield 36, 3) := by decide +kernel
theorem d6_put_4 : decode b6_put 4 = .ok (.aload_n 0, 1) := by decide +kernel
theorem d6_put_5 : decode b6_put 5 = .ok (.getfield 39, 3) := by decide +kernel
theorem d6_put_8 : decode b6_put 8 = .ok (.iload_n 1, 1) := by decide +kernel
theorem d6_put_9 : decode b6_put 9 = .ok (.iastore, 1) := by decide +kernel
theorem d6_put_10 : decode b6_put 10 = .ok (.aload_n 0, 1) := by decide +kernel
theorem d6_put_11 : decode b6_put 11 = .ok (.dup, 1) := by decide +kernel
theorem d6_put_12 : decode b6_put 12 = .ok (.getfield 39, 3) := by decide +kernel
theorem d6_put_15 : decode b6_put 15 = .ok (.iconst 1, 1) := by decide +kernel
theorem d6_put_16 : decode b6_put 16 = .ok (.iadd, 1) := by decide +kernel
theorem d6_put_17 : decode b6_put 17 = .ok (.putfield 39, 3) := by decide +kernel
theorem d6_put_20 : decode b6_put 20 = .ok (.return_, 1) := by decide +kernel
abbrev b6_putNumber : ByteArray := prog_8_method_131_code
def y6_putNumber : MethodName := ⟨"ChannelScheduleModel", "putNumber", "(I)V"⟩
theorem w6_putNumber : YV y6_putNumber b6_putNumber 3 none 1 := ⟨LW_i 1827 (by decide +kernel) (by decide +kernel), LW_i 108 (by decide +kernel) (by decide +kernel), LW_i 120 (by decide +kernel) (by decide +kernel), LW_i 1828 (by decide +kernel) (by decide +kernel), by decide +kernel, by decide +kernel⟩
theorem d6_putNumber_0 : decode b6_putNumber 0 = .ok (.iconst 1, 1) := by decide +kernel
theorem d6_putNumber_1 : decode b6_putNumber 1 = .ok (.istore_n 2, 1) := by decide +kernel
theorem d6_putNumber_2 : decode b6_putNumber 2 = .ok (.iload_n 1, 1) := by decide +kernel
theorem d6_putNumber_3 : decode b6_putNumber 3 = .ok (.iload_n 2, 1) := by decide +kernel
theorem d6_putNumber_4 : decode b6_putNumber 4 = .ok (.idiv, 1) := by decide +kernel
theorem d6_putNumber_5 : decode b6_putNumber 5 = .ok (.bipush 10, 2) := by decide +kernel
theorem d6_putNumber_7 : decode b6_putNumber 7 = .ok (.if_icmp .lt 11, 3) := by decide +kernel
theorem d6_putNumber_10 : decode b6_putNumber 10 = .ok (.iload_n 2, 1) := by decide +kernel
theorem d6_putNumber_11 : decode b6_putNumber 11 = .ok (.bipush 10, 2) := by decide +kernel
theorem d6_putNumber_13 : decode b6_putNumber 13 = .ok (.imul, 1) := by decide +kernel
theorem d6_putNumber_14 : decode b6_putNumber 14 = .ok (.istore_n 2, 1) := by decide +kernel
theorem d6_putNumber_15 : decode b6_putNumber 15 = .ok (.goto (-13), 3) := by decide +kernel
theorem d6_putNumber_18 : decode b6_putNumber 18 = .ok (.iload_n 2, 1) := by decide +kernel
theorem d6_putNumber_19 : decode b6_putNumber 19 = .ok (.ifCond .le 24, 3) := by decide +kernel
theorem d6_putNumber_22 : decode b6_putNumber 22 = .ok (.aload_n 0, 1) := by decide +kernel
theorem d6_putNumber_23 : decode b6_putNumber 23 = .ok (.bipush 48, 2) := by decide +kernel
theorem d6_putNumber_25 : decode b6_putNumber 25 = .ok (.iload_n 1, 1) := by decide +kernel
theorem d6_putNumber_26 : decode b6_putNumber 26 = .ok (.iload_n 2, 1) := by decide +kernel
theorem d6_putNumber_27 : decode b6_putNumber 27 = .ok (.idiv, 1) := by decide +kernel
theorem d6_putNumber_28 : decode b6_putNumber 28 = .ok (.bipush 10, 2) := by decide +kernel
theorem d6_putNumber_30 : decode b6_putNumber 30 = .ok (.irem, 1) := by decide +kernel
theorem d6_putNumber_31 : decode b6_putNumber 31 = .ok (.iadd, 1) := by decide +kernel
theorem d6_putNumber_32 : decode b6_putNumber 32 = .ok (.invokevirtual 301, 3) := by decide +kernel
theorem d6_putNumber_35 : decode b6_putNumber 35 = .ok (.iload_n 2, 1) := by decide +kernel
theorem d6_putNumber_36 : decode b6_putNumber 36 = .ok (.bipush 10, 2) := by decide +kernel
theorem d6_putNumber_38 : decode b6_putNumber 38 = .ok (.idiv, 1) := by decide +kernel
theorem d6_putNumber_39 : decode b6_putNumber 39 = .ok (.istore_n 2, 1) := by decide +kernel
theorem d6_putNumber_40 : decode b6_putNumber 40 = .ok (.goto (-22), 3) := by decide +kernel
theorem d6_putNumber_43 : decode b6_putNumber 43 = .ok (.return_, 1) := by decide +kernel
abbrev b6_writeSchedule : ByteArray := prog_8_method_132_code
def y6_writeSchedule : MethodName := ⟨"ChannelScheduleModel", "writeSchedule", "()I"⟩
theorem w6_writeSchedule : YV y6_writeSchedule b6_writeSchedule 4 (some .int) 0 := ⟨LW_i 1818 (by decide +kernel) (by decide +kernel), LW_i 1819 (by decide +kernel) (by decide +kernel), LW_i 120 (by decide +kernel) (by decide +kernel), LW_i 1820 (by decide +kernel) (by decide +kernel), by decide +kernel, by decide +kernel⟩
theorem d6_writeSchedule_0 : decode b6_writeSchedule 0 = .ok (.aload_n 0, 1) := by decide +kernel
theorem d6_writeSchedule_1 : decode b6_writeSchedule 1 = .ok (.iconst 0, 1) := by decide +kernel
theorem d6_writeSchedule_2 : decode b6_writeSchedule 2 = .ok (.putfield 1, 3) := by decide +kernel
theorem d6_writeSchedule_5 : decode b6_writeSchedule 5 = .ok (.aload_n 0, 1) := by decide +kernel
theorem d6_writeSchedule_6 : decode b6_writeSchedule 6 = .ok (.iconst 0, 1) := by decide +kernel
theorem d6_writeSchedule_7 : decode b6_writeSchedule 7 = .ok (.putfield 39, 3) := by decide +kernel
theorem d6_writeSchedule_10 : decode b6_writeSchedule 10 = .ok (.iconst 0, 1) := by decide +kernel
theorem d6_writeSchedule_11 : decode b6_writeSchedule 11 = .ok (.istore_n 1, 1) := by decide +kernel
theorem d6_writeSchedule_12 : decode b6_writeSchedule 12 = .ok (.iload_n 1, 1) := by decide +kernel
theorem d6_writeSchedule_13 : decode b6_writeSchedule 13 = .ok (.aload_n 0, 1) := by decide +kernel
theorem d6_writeSchedule_14 : decode b6_writeSchedule 14 = .ok (.getfield 13, 3) := by decide +kernel
theorem d6_writeSchedule_17 : decode b6_writeSchedule 17 = .ok (.iconst 5, 1) := by decide +kernel
theorem d6_writeSchedule_18 : decode b6_writeSchedule 18 = .ok (.iaload, 1) := by decide +kernel
theorem d6_writeSchedule_19 : decode b6_writeSchedule 19 = .ok (.if_icmp .ge 103, 3) := by decide +kernel
theorem d6_writeSchedule_22 : decode b6_writeSchedule 22 = .ok (.iload_n 1, 1) := by decide +kernel
theorem d6_writeSchedule_23 : decode b6_writeSchedule 23 = .ok (.ifCond .le 9, 3) := by decide +kernel
theorem d6_writeSchedule_26 : decode b6_writeSchedule 26 = .ok (.aload_n 0, 1) := by decide +kernel
theorem d6_writeSchedule_27 : decode b6_writeSchedule 27 = .ok (.bipush 32, 2) := by decide +kernel
theorem d6_writeSchedule_29 : decode b6_writeSchedule 29 = .ok (.invokevirtual 301, 3) := by decide +kernel
theorem d6_writeSchedule_32 : decode b6_writeSchedule 32 = .ok (.aload_n 0, 1) := by decide +kernel
theorem d6_writeSchedule_33 : decode b6_writeSchedule 33 = .ok (.iload_n 1, 1) := by decide +kernel
theorem d6_writeSchedule_34 : decode b6_writeSchedule 34 = .ok (.iconst 0, 1) := by decide +kernel
theorem d6_writeSchedule_35 : decode b6_writeSchedule 35 = .ok (.invokevirtual 91, 3) := by decide +kernel
theorem d6_writeSchedule_38 : decode b6_writeSchedule 38 = .ok (.istore_n 2, 1) := by decide +kernel
theorem d6_writeSchedule_39 : decode b6_writeSchedule 39 = .ok (.iconst 0, 1) := by decide +kernel
theorem d6_writeSchedule_40 : decode b6_writeSchedule 40 = .ok (.istore_n 3, 1) := by decide +kernel
theorem d6_writeSchedule_41 : decode b6_writeSchedule 41 = .ok (.iload_n 3, 1) := by decide +kernel
theorem d6_writeSchedule_42 : decode b6_writeSchedule 42 = .ok (.aload_n 0, 1) := by decide +kernel
theorem d6_writeSchedule_43 : decode b6_writeSchedule 43 = .ok (.iload_n 2, 1) := by decide +kernel
theorem d6_writeSchedule_44 : decode b6_writeSchedule 44 = .ok (.iconst 0, 1) := by decide +kernel
theorem d6_writeSchedule_45 : decode b6_writeSchedule 45 = .ok (.invokevirtual 83, 3) := by decide +kernel
theorem d6_writeSchedule_48 : decode b6_writeSchedule 48 = .ok (.if_icmp .ge 21, 3) := by decide +kernel
theorem d6_writeSchedule_51 : decode b6_writeSchedule 51 = .ok (.aload_n 0, 1) := by decide +kernel
theorem d6_writeSchedule_52 : decode b6_writeSchedule 52 = .ok (.aload_n 0, 1) := by decide +kernel
theorem d6_writeSchedule_53 : decode b6_writeSchedule 53 = .ok (.iload_n 2, 1) := by decide +kernel
theorem d6_writeSchedule_54 : decode b6_writeSchedule 54 = .ok (.iconst 1, 1) := by decide +kernel
theorem d6_writeSchedule_55 : decode b6_writeSchedule 55 = .ok (.iload_n 3, 1) := by decide +kernel
theorem d6_writeSchedule_56 : decode b6_writeSchedule 56 = .ok (.iadd, 1) := by decide +kernel
theorem d6_writeSchedule_57 : decode b6_writeSchedule 57 = .ok (.invokevirtual 83, 3) := by decide +kernel
theorem d6_writeSchedule_60 : decode b6_writeSchedule 60 = .ok (.invokevirtual 301, 3) := by decide +kernel
theorem d6_writeSchedule_63 : decode b6_writeSchedule 63 = .ok (.iinc 3 1, 3) := by decide +kernel
theorem d6_writeSchedule_66 : decode b6_writeSchedule 66 = .ok (.goto (-25), 3) := by decide +kernel
theorem d6_writeSchedule_69 : decode b6_writeSchedule 69 = .ok (.aload_n 0, 1) := by decide +kernel
theorem d6_writeSchedule_70 : decode b6_writeSchedule 70 = .ok (.aload_n 0, 1) := by decide +kernel
theorem d6_writeSchedule_71 : decode b6_writeSchedule 71 = .ok (.iload_n 1, 1) := by decide +kernel
theorem d6_writeSchedule_72 : decode b6_writeSchedule 72 = .ok (.iconst 1, 1) := by decide +kernel
theorem d6_writeSchedule_73 : decode b6_writeSchedule 73 = .ok (.invokevirtual 91, 3) := by decide +kernel
theorem d6_writeSchedule_76 : decode b6_writeSchedule 76 = .ok (.iconst 1, 1) := by decide +kernel
theorem d6_writeSchedule_77 : decode b6_writeSchedule 77 = .ok (.if_icmp .ne 8, 3) := by decide +kernel
theorem d6_writeSchedule_80 : decode b6_writeSchedule 80 = .ok (.bipush 62, 2) := by decide +kernel
theorem d6_writeSchedule_82 : decode b6_writeSchedule 82 = .ok (.goto 5, 3) := by decide +kernel
theorem d6_writeSchedule_85 : decode b6_writeSchedule 85 = .ok (.bipush 60, 2) := by decide +kernel
theorem d6_writeSchedule_87 : decode b6_writeSchedule 87 = .ok (.invokevirtual 301, 3) := by decide +kernel
theorem d6_writeSchedule_90 : decode b6_writeSchedule 90 = .ok (.aload_n 0, 1) := by decide +kernel
theorem d6_writeSchedule_91 : decode b6_writeSchedule 91 = .ok (.aload_n 0, 1) := by decide +kernel
theorem d6_writeSchedule_92 : decode b6_writeSchedule 92 = .ok (.iload_n 1, 1) := by decide +kernel
theorem d6_writeSchedule_93 : decode b6_writeSchedule 93 = .ok (.iconst 2, 1) := by decide +kernel
theorem d6_writeSchedule_94 : decode b6_writeSchedule 94 = .ok (.invokevirtual 91, 3) := by decide +kernel
theorem d6_writeSchedule_97 : decode b6_writeSchedule 97 = .ok (.invokevirtual 304, 3) := by decide +kernel
theorem d6_writeSchedule_100 : decode b6_writeSchedule 100 = .ok (.aload_n 0, 1) := by decide +kernel
theorem d6_writeSchedule_101 : decode b6_writeSchedule 101 = .ok (.bipush 45, 2) := by decide +kernel
theorem d6_writeSchedule_103 : decode b6_writeSchedule 103 = .ok (.invokevirtual 301, 3) := by decide +kernel
theorem d6_writeSchedule_106 : decode b6_writeSchedule 106 = .ok (.aload_n 0, 1) := by decide +kernel
theorem d6_writeSchedule_107 : decode b6_writeSchedule 107 = .ok (.aload_n 0, 1) := by decide +kernel
theorem d6_writeSchedule_108 : decode b6_writeSchedule 108 = .ok (.iload_n 1, 1) := by decide +kernel
theorem d6_writeSchedule_109 : decode b6_writeSchedule 109 = .ok (.iconst 3, 1) := by decide +kernel
theorem d6_writeSchedule_110 : decode b6_writeSchedule 110 = .ok (.invokevirtual 91, 3) := by decide +kernel
theorem d6_writeSchedule_113 : decode b6_writeSchedule 113 = .ok (.invokevirtual 304, 3) := by decide +kernel
theorem d6_writeSchedule_116 : decode b6_writeSchedule 116 = .ok (.iinc 1 1, 3) := by decide +kernel
theorem d6_writeSchedule_119 : decode b6_writeSchedule 119 = .ok (.goto (-107), 3) := by decide +kernel
theorem d6_writeSchedule_122 : decode b6_writeSchedule 122 = .ok (.aload_n 0, 1) := by decide +kernel
theorem d6_writeSchedule_123 : decode b6_writeSchedule 123 = .ok (.getfield 39, 3) := by decide +kernel
theorem d6_writeSchedule_126 : decode b6_writeSchedule 126 = .ok (.ireturn, 1) := by decide +kernel
abbrev b6_outputByte : ByteArray := prog_8_method_133_code
def y6_outputByte : MethodName := ⟨"ChannelScheduleModel", "outputByte", "(I)I"⟩
theorem w6_outputByte : YV y6_outputByte b6_outputByte 2 (some .int) 1 := ⟨LW_i 1830 (by decide +kernel) (by decide +kernel), LW_i 1831 (by decide +kernel) (by decide +kernel), LW_i 120 (by decide +kernel) (by decide +kernel), LW_i 1832 (by decide +kernel) (by decide +kernel), by decide +kernel, by decide +kernel⟩
theorem d6_outputByte_0 : decode b6_outputByte 0 = .ok (.aload_n 0, 1) := by decide +kernel
theorem d6_outputByte_1 : decode b6_outputByte 1 = .ok (.iload_n 1, 1) := by decide +kernel
theorem d6_outputByte_2 : decode b6_outputByte 2 = .ok (.iconst 0, 1) := by decide +kernel
theorem d6_outputByte_3 : decode b6_outputByte 3 = .ok (.aload_n 0, 1) := by decide +kernel
theorem d6_outputByte_4 : decode b6_outputByte 4 = .ok (.getfield 39, 3) := by decide +kernel
theorem d6_outputByte_7 : decode b6_outputByte 7 = .ok (.iconst 1, 1) := by decide +kernel
theorem d6_outputByte_8 : decode b6_outputByte 8 = .ok (.isub, 1) := by decide +kernel
theorem d6_outputByte_9 : decode b6_outputByte 9 = .ok (.invokestatic 75, 3) := by decide +kernel
theorem d6_outputByte_12 : decode b6_outputByte 12 = .ok (.ifCond .ne 7, 3) := by decide +kernel
theorem d6_outputByte_15 : decode b6_outputByte 15 = .ok (.iconst 1, 1) := by decide +kernel
theorem d6_outputByte_16 : decode b6_outputByte 16 = .ok (.goto 4, 3) := by decide +kernel
theorem d6_outputByte_19 : decode b6_outputByte 19 = .ok (.iconst 0, 1) := by decide +kernel
theorem d6_outputByte_20 : decode b6_outputByte 20 = .ok (.iconst 0, 1) := by decide +kernel
theorem d6_outputByte_21 : decode b6_outputByte 21 = .ok (.iconst 0, 1) := by decide +kernel
theorem d6_outputByte_22 : decode b6_outputByte 22 = .ok (.invokevirtual 148, 3) := by decide +kernel
theorem d6_outputByte_25 : decode b6_outputByte 25 = .ok (.ifCond .eq 5, 3) := by decide +kernel
theorem d6_outputByte_28 : decode b6_outputByte 28 = .ok (.iconst 0, 1) := by decide +kernel
theorem d6_outputByte_29 : decode b6_outputByte 29 = .ok (.ireturn, 1) := by decide +kernel
theorem d6_outputByte_30 : decode b6_outputByte 30 = .ok (.aload_n 0, 1) := by decide +kernel
theorem d6_outputByte_31 : decode b6_outputByte 31 = .ok (.getfield 36, 3) := by decide +kernel
theorem d6_outputByte_34 : decode b6_outputByte 34 = .ok (.iload_n 1, 1) := by decide +kernel
theorem d6_outputByte_35 : decode b6_outputByte 35 = .ok (.iaload, 1) := by decide +kernel
theorem d6_outputByte_36 : decode b6_outputByte 36 = .ok (.ireturn, 1) := by decide +kernel
theorem l6_7 : .methodLink "ChannelScheduleModel" 7 ⟨"java/lang/Object", "<init>", "()V"⟩ ∈ LW := LW_i 1254 (by decide +kernel) (by decide +kernel)
theorem l6_59 : .methodLink "ChannelScheduleModel" 59 ⟨"java/lang/String", "length", "()I"⟩ ∈ LW := LW_i 1256 (by decide +kernel) (by decide +kernel)
theorem l6_64 : .methodLink "ChannelScheduleModel" 64 ⟨"java/lang/String", "charAt", "(I)C"⟩ ∈ LW := LW_i 1257 (by decide +kernel) (by decide +kernel)
theorem l6_68 : .methodLink "ChannelScheduleModel" 68 y6_begin ∈ LW := LW_i 1258 (by decide +kernel) (by decide +kernel)
theorem l6_71 : .methodLink "ChannelScheduleModel" 71 y6_parseSetup ∈ LW := LW_i 1272 (by decide +kernel) (by decide +kernel)
theorem l6_75 : .methodLink "ChannelScheduleModel" 75 y6_in ∈ LW := LW_i 1289 (by decide +kernel) (by decide +kernel)
theorem l6_79 : .methodLink "ChannelScheduleModel" 79 y6_copyBlock ∈ LW := LW_i 1379 (by decide +kernel) (by decide +kernel)
theorem l6_83 : .methodLink "ChannelScheduleModel" 83 y6_ofShip ∈ LW := LW_i 1309 (by decide +kernel) (by decide +kernel)
theorem l6_87 : .methodLink "ChannelScheduleModel" 87 y6_conflict ∈ LW := LW_i 1451 (by decide +kernel) (by decide +kernel)
theorem l6_91 : .methodLink "ChannelScheduleModel" 91 y6_ofBooking ∈ LW := LW_i 1447 (by decide +kernel) (by decide +kernel)
theorem l6_94 : .methodLink "ChannelScheduleModel" 94 y6_transit ∈ LW := LW_i 1439 (by decide +kernel) (by decide +kernel)
theorem l6_98 : .methodLink "ChannelScheduleModel" 98 y6_conflictsWith ∈ LW := LW_i 1443 (by decide +kernel) (by decide +kernel)
theorem l6_102 : .methodLink "ChannelScheduleModel" 102 y6_conflicting ∈ LW := LW_i 1435 (by decide +kernel) (by decide +kernel)
theorem l6_106 : .methodLink "ChannelScheduleModel" 106 y6_insert ∈ LW := LW_i 1459 (by decide +kernel) (by decide +kernel)
theorem l6_110 : .methodLink "ChannelScheduleModel" 110 y6_earliest ∈ LW := LW_i 1471 (by decide +kernel) (by decide +kernel)
theorem l6_114 : .methodLink "ChannelScheduleModel" 114 y6_ofRequest ∈ LW := LW_i 1499 (by decide +kernel) (by decide +kernel)
theorem l6_117 : .methodLink "ChannelScheduleModel" 117 y6_servingMinute ∈ LW := LW_i 1467 (by decide +kernel) (by decide +kernel)
theorem l6_120 : .methodLink "ChannelScheduleModel" 120 y6_addBooking ∈ LW := LW_i 1455 (by decide +kernel) (by decide +kernel)
theorem l6_124 : .methodLink "ChannelScheduleModel" 124 y6_removeRequest ∈ LW := LW_i 1503 (by decide +kernel) (by decide +kernel)
theorem l6_128 : .methodLink "ChannelScheduleModel" 128 y6_removeBooking ∈ LW := LW_i 1491 (by decide +kernel) (by decide +kernel)
theorem l6_131 : .methodLink "ChannelScheduleModel" 131 y6_process ∈ LW := LW_i 1495 (by decide +kernel) (by decide +kernel)
theorem l6_134 : .methodLink "ChannelScheduleModel" 134 y6_durationOf ∈ LW := LW_i 1515 (by decide +kernel) (by decide +kernel)
theorem l6_137 : .methodLink "ChannelScheduleModel" 137 y6_canCancel ∈ LW := LW_i 1483 (by decide +kernel) (by decide +kernel)
theorem l6_141 : .methodLink "ChannelScheduleModel" 141 y6_fitsAt ∈ LW := LW_i 1511 (by decide +kernel) (by decide +kernel)
theorem l6_145 : .methodLink "ChannelScheduleModel" 145 y6_finishedBy ∈ LW := LW_i 1535 (by decide +kernel) (by decide +kernel)
theorem l6_148 : .methodLink "ChannelScheduleModel" 148 y6_fails ∈ LW := LW_i 1363 (by decide +kernel) (by decide +kernel)
theorem l6_152 : .methodLink "ChannelScheduleModel" 152 y6_appendWord ∈ LW := LW_i 1367 (by decide +kernel) (by decide +kernel)
theorem l6_155 : .methodLink "ChannelScheduleModel" 155 y6_isSmall ∈ LW := LW_i 1266 (by decide +kernel) (by decide +kernel)
theorem l6_158 : .methodLink "ChannelScheduleModel" 158 y6_isDigit ∈ LW := LW_i 1269 (by decide +kernel) (by decide +kernel)
theorem l6_161 : .methodLink "ChannelScheduleModel" 161 y6_token ∈ LW := LW_i 1262 (by decide +kernel) (by decide +kernel)
theorem l6_164 : .methodLink "ChannelScheduleModel" 164 y6_wrong ∈ LW := LW_i 1281 (by decide +kernel) (by decide +kernel)
theorem l6_167 : .methodLink "ChannelScheduleModel" 167 y6_isShortWord ∈ LW := LW_i 1301 (by decide +kernel) (by decide +kernel)
theorem l6_170 : .methodLink "ChannelScheduleModel" 170 y6_shipNamed ∈ LW := LW_i 1305 (by decide +kernel) (by decide +kernel)
theorem l6_173 : .methodLink "ChannelScheduleModel" 173 y6_parseRanged ∈ LW := LW_i 1285 (by decide +kernel) (by decide +kernel)
theorem l6_176 : .methodLink "ChannelScheduleModel" 176 y6_semicolon ∈ LW := LW_i 1292 (by decide +kernel) (by decide +kernel)
theorem l6_181 : .methodLink "ChannelScheduleModel" 181 y6_isWord ∈ LW := LW_i 1277 (by decide +kernel) (by decide +kernel)
theorem l6_187 : .methodLink "ChannelScheduleModel" 187 y6_parseShip ∈ LW := LW_i 1297 (by decide +kernel) (by decide +kernel)
theorem l6_204 : .methodLink "ChannelScheduleModel" 204 y6_nameOf ∈ LW := LW_i 1395 (by decide +kernel) (by decide +kernel)
theorem l6_211 : .methodLink "ChannelScheduleModel" 211 y6_parseNumber ∈ LW := LW_i 1409 (by decide +kernel) (by decide +kernel)
theorem l6_214 : .methodLink "ChannelScheduleModel" 214 y6_parseShipName ∈ LW := LW_i 1413 (by decide +kernel) (by decide +kernel)
theorem l6_217 : .methodLink "ChannelScheduleModel" 217 y6_parseDirection ∈ LW := LW_i 1417 (by decide +kernel) (by decide +kernel)
theorem l6_220 : .methodLink "ChannelScheduleModel" 220 y6_commandHere ∈ LW := LW_i 1391 (by decide +kernel) (by decide +kernel)
theorem l6_223 : .methodLink "ChannelScheduleModel" 223 y6_parseArguments ∈ LW := LW_i 1405 (by decide +kernel) (by decide +kernel)
theorem l6_226 : .methodLink "ChannelScheduleModel" 226 y6_canBook ∈ LW := LW_i 1431 (by decide +kernel) (by decide +kernel)
theorem l6_229 : .methodLink "ChannelScheduleModel" 229 y6_canRequest ∈ LW := LW_i 1463 (by decide +kernel) (by decide +kernel)
theorem l6_232 : .methodLink "ChannelScheduleModel" 232 y6_requestIt ∈ LW := LW_i 1475 (by decide +kernel) (by decide +kernel)
theorem l6_235 : .methodLink "ChannelScheduleModel" 235 y6_isBooking ∈ LW := LW_i 1479 (by decide +kernel) (by decide +kernel)
theorem l6_238 : .methodLink "ChannelScheduleModel" 238 y6_cancelIt ∈ LW := LW_i 1487 (by decide +kernel) (by decide +kernel)
theorem l6_241 : .methodLink "ChannelScheduleModel" 241 y6_movingReason ∈ LW := LW_i 1507 (by decide +kernel) (by decide +kernel)
theorem l6_244 : .methodLink "ChannelScheduleModel" 244 y6_moveIt ∈ LW := LW_i 1519 (by decide +kernel) (by decide +kernel)
theorem l6_247 : .methodLink "ChannelScheduleModel" 247 y6_isRequest ∈ LW := LW_i 1523 (by decide +kernel) (by decide +kernel)
theorem l6_250 : .methodLink "ChannelScheduleModel" 250 y6_iceIt ∈ LW := LW_i 1527 (by decide +kernel) (by decide +kernel)
theorem l6_253 : .methodLink "ChannelScheduleModel" 253 y6_advanceIt ∈ LW := LW_i 1531 (by decide +kernel) (by decide +kernel)
theorem l6_256 : .methodLink "ChannelScheduleModel" 256 y6_parseScript ∈ LW := LW_i 1387 (by decide +kernel) (by decide +kernel)
theorem l6_259 : .methodLink "ChannelScheduleModel" 259 y6_remember ∈ LW := LW_i 1423 (by decide +kernel) (by decide +kernel)
theorem l6_262 : .methodLink "ChannelScheduleModel" 262 y6_carryOut ∈ LW := LW_i 1427 (by decide +kernel) (by decide +kernel)
theorem l6_265 : .methodLink "ChannelScheduleModel" 265 y6_plain ∈ LW := LW_i 1551 (by decide +kernel) (by decide +kernel)
theorem l6_268 : .methodLink "ChannelScheduleModel" 268 y6_isShip ∈ LW := LW_i 1575 (by decide +kernel) (by decide +kernel)
theorem l6_271 : .methodLink "ChannelScheduleModel" 271 y6_bookingField ∈ LW := LW_i 1603 (by decide +kernel) (by decide +kernel)
theorem l6_274 : .methodLink "ChannelScheduleModel" 274 y6_shipsIn ∈ LW := LW_i 1631 (by decide +kernel) (by decide +kernel)
theorem l6_277 : .methodLink "ChannelScheduleModel" 277 y6_areMinutes ∈ LW := LW_i 1639 (by decide +kernel) (by decide +kernel)
theorem l6_280 : .methodLink "ChannelScheduleModel" 280 y6_requestField ∈ LW := LW_i 1690 (by decide +kernel) (by decide +kernel)
theorem l6_283 : .methodLink "ChannelScheduleModel" 283 y6_startFor ∈ LW := LW_i 1710 (by decide +kernel) (by decide +kernel)
theorem l6_286 : .methodLink "ChannelScheduleModel" 286 y6_areCompatible ∈ LW := LW_i 1741 (by decide +kernel) (by decide +kernel)
theorem l6_289 : .methodLink "ChannelScheduleModel" 289 y6_valueOf ∈ LW := LW_i 1730 (by decide +kernel) (by decide +kernel)
theorem l6_292 : .methodLink "ChannelScheduleModel" 292 y6_isAhead ∈ LW := LW_i 1734 (by decide +kernel) (by decide +kernel)
theorem l6_295 : .methodLink "ChannelScheduleModel" 295 y6_isSelection ∈ LW := LW_i 1737 (by decide +kernel) (by decide +kernel)
theorem l6_298 : .methodLink "ChannelScheduleModel" 298 y6_bestSet ∈ LW := LW_i 1726 (by decide +kernel) (by decide +kernel)
theorem l6_301 : .methodLink "ChannelScheduleModel" 301 y6_put ∈ LW := LW_i 1821 (by decide +kernel) (by decide +kernel)
theorem l6_304 : .methodLink "ChannelScheduleModel" 304 y6_putNumber ∈ LW := LW_i 1825 (by decide +kernel) (by decide +kernel)
theorem f6_1 : .fieldLink "ChannelScheduleModel" 1 "ChannelScheduleModel" "thrown" "I" ∈ LW := LW_i 1322 (by decide +kernel) (by decide +kernel)
theorem f6_13 : .fieldLink "ChannelScheduleModel" 13 "ChannelScheduleModel" "m" "[I" ∈ LW := LW_i 1313 (by decide +kernel) (by decide +kernel)
theorem f6_17 : .fieldLink "ChannelScheduleModel" 17 "ChannelScheduleModel" "isSaved" "[Z" ∈ LW := LW_i 1314 (by decide +kernel) (by decide +kernel)
theorem f6_21 : .fieldLink "ChannelScheduleModel" 21 "ChannelScheduleModel" "undoable" "I" ∈ LW := LW_i 1315 (by decide +kernel) (by decide +kernel)
theorem f6_24 : .fieldLink "ChannelScheduleModel" 24 "ChannelScheduleModel" "buffer" "[I" ∈ LW := LW_i 1316 (by decide +kernel) (by decide +kernel)
theorem f6_27 : .fieldLink "ChannelScheduleModel" 27 "ChannelScheduleModel" "length" "I" ∈ LW := LW_i 1317 (by decide +kernel) (by decide +kernel)
theorem f6_30 : .fieldLink "ChannelScheduleModel" 30 "ChannelScheduleModel" "errorCode" "I" ∈ LW := LW_i 1318 (by decide +kernel) (by decide +kernel)
theorem f6_33 : .fieldLink "ChannelScheduleModel" 33 "ChannelScheduleModel" "errorPosition" "I" ∈ LW := LW_i 1319 (by decide +kernel) (by decide +kernel)
theorem f6_36 : .fieldLink "ChannelScheduleModel" 36 "ChannelScheduleModel" "written" "[I" ∈ LW := LW_i 1320 (by decide +kernel) (by decide +kernel)
theorem f6_39 : .fieldLink "ChannelScheduleModel" 39 "ChannelScheduleModel" "writtenLength" "I" ∈ LW := LW_i 1321 (by decide +kernel) (by decide +kernel)
theorem f6_42 : .fieldLink "ChannelScheduleModel" 42 "ChannelScheduleModel" "ahead" "I" ∈ LW := LW_i 1323 (by decide +kernel) (by decide +kernel)
theorem f6_45 : .fieldLink "ChannelScheduleModel" 45 "ChannelScheduleModel" "type" "I" ∈ LW := LW_i 1324 (by decide +kernel) (by decide +kernel)
theorem f6_48 : .fieldLink "ChannelScheduleModel" 48 "ChannelScheduleModel" "from" "I" ∈ LW := LW_i 1325 (by decide +kernel) (by decide +kernel)
theorem f6_51 : .fieldLink "ChannelScheduleModel" 51 "ChannelScheduleModel" "value" "I" ∈ LW := LW_i 1326 (by decide +kernel) (by decide +kernel)
theorem f6_54 : .fieldLink "ChannelScheduleModel" 54 "ChannelScheduleModel" "commands" "[I" ∈ LW := LW_i 1327 (by decide +kernel) (by decide +kernel)
