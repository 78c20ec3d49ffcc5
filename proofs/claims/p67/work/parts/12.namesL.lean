/-! names of the law and of its own class -/
abbrev b6_init : ByteArray := prog_8_method_1_code
def y6_init : MethodName := ⟨"ChannelScheduleLaw$Own", "<init>", "(LChannelSchedule;)V"⟩
theorem w6_init : YI y6_init b6_init 2 1 := ⟨LW_i 671 (by decide +kernel) (by decide +kernel), LW_i 51 (by decide +kernel) (by decide +kernel), LW_i 672 (by decide +kernel) (by decide +kernel), by decide +kernel, by decide +kernel, rfl⟩
theorem d6_init_0 : decode b6_init 0 = .ok (.aload_n 0, 1) := by decide +kernel
theorem d6_init_1 : decode b6_init 1 = .ok (.invokespecial 1, 3) := by decide +kernel
theorem d6_init_4 : decode b6_init 4 = .ok (.aload_n 0, 1) := by decide +kernel
theorem d6_init_5 : decode b6_init 5 = .ok (.bipush 20, 2) := by decide +kernel
theorem d6_init_7 : decode b6_init 7 = .ok (.newarray .int, 2) := by decide +kernel
theorem d6_init_9 : decode b6_init 9 = .ok (.putfield 7, 3) := by decide +kernel
theorem d6_init_12 : decode b6_init 12 = .ok (.aload_n 0, 1) := by decide +kernel
theorem d6_init_13 : decode b6_init 13 = .ok (.bipush 20, 2) := by decide +kernel
theorem d6_init_15 : decode b6_init 15 = .ok (.newarray .boolean, 2) := by decide +kernel
theorem d6_init_17 : decode b6_init 17 = .ok (.putfield 13, 3) := by decide +kernel
theorem d6_init_20 : decode b6_init 20 = .ok (.aload_n 0, 1) := by decide +kernel
theorem d6_init_21 : decode b6_init 21 = .ok (.bipush 20, 2) := by decide +kernel
theorem d6_init_23 : decode b6_init 23 = .ok (.newarray .int, 2) := by decide +kernel
theorem d6_init_25 : decode b6_init 25 = .ok (.putfield 17, 3) := by decide +kernel
theorem d6_init_28 : decode b6_init 28 = .ok (.aload_n 0, 1) := by decide +kernel
theorem d6_init_29 : decode b6_init 29 = .ok (.bipush 20, 2) := by decide +kernel
theorem d6_init_31 : decode b6_init 31 = .ok (.newarray .int, 2) := by decide +kernel
theorem d6_init_33 : decode b6_init 33 = .ok (.putfield 20, 3) := by decide +kernel
theorem d6_init_36 : decode b6_init 36 = .ok (.aload_n 0, 1) := by decide +kernel
theorem d6_init_37 : decode b6_init 37 = .ok (.bipush 8, 2) := by decide +kernel
theorem d6_init_39 : decode b6_init 39 = .ok (.newarray .int, 2) := by decide +kernel
theorem d6_init_41 : decode b6_init 41 = .ok (.putfield 23, 3) := by decide +kernel
theorem d6_init_44 : decode b6_init 44 = .ok (.aload_n 0, 1) := by decide +kernel
theorem d6_init_45 : decode b6_init 45 = .ok (.bipush 8, 2) := by decide +kernel
theorem d6_init_47 : decode b6_init 47 = .ok (.newarray .boolean, 2) := by decide +kernel
theorem d6_init_49 : decode b6_init 49 = .ok (.putfield 26, 3) := by decide +kernel
theorem d6_init_52 : decode b6_init 52 = .ok (.aload_n 0, 1) := by decide +kernel
theorem d6_init_53 : decode b6_init 53 = .ok (.bipush 8, 2) := by decide +kernel
theorem d6_init_55 : decode b6_init 55 = .ok (.newarray .int, 2) := by decide +kernel
theorem d6_init_57 : decode b6_init 57 = .ok (.putfield 29, 3) := by decide +kernel
theorem d6_init_60 : decode b6_init 60 = .ok (.aload_n 0, 1) := by decide +kernel
theorem d6_init_61 : decode b6_init 61 = .ok (.bipush 8, 2) := by decide +kernel
theorem d6_init_63 : decode b6_init 63 = .ok (.newarray .int, 2) := by decide +kernel
theorem d6_init_65 : decode b6_init 65 = .ok (.putfield 32, 3) := by decide +kernel
theorem d6_init_68 : decode b6_init 68 = .ok (.aload_n 0, 1) := by decide +kernel
theorem d6_init_69 : decode b6_init 69 = .ok (.aload_n 1, 1) := by decide +kernel
theorem d6_init_70 : decode b6_init 70 = .ok (.putfield 35, 3) := by decide +kernel
theorem d6_init_73 : decode b6_init 73 = .ok (.return_, 1) := by decide +kernel
abbrev b6_read : ByteArray := prog_8_method_2_code
def y6_read : MethodName := ⟨"ChannelScheduleLaw$Own", "read", "()V"⟩
theorem w6_read : YV y6_read b6_read 2 none 0 := ⟨LW_i 718 (by decide +kernel) (by decide +kernel), LW_i 719 (by decide +kernel) (by decide +kernel), LW_i 51 (by decide +kernel) (by decide +kernel), LW_i 720 (by decide +kernel) (by decide +kernel), by decide +kernel, by decide +kernel⟩
theorem d6_read_0 : decode b6_read 0 = .ok (.aload_n 0, 1) := by decide +kernel
theorem d6_read_1 : decode b6_read 1 = .ok (.aload_n 0, 1) := by decide +kernel
theorem d6_read_2 : decode b6_read 2 = .ok (.getfield 35, 3) := by decide +kernel
theorem d6_read_5 : decode b6_read 5 = .ok (.invokevirtual 39, 3) := by decide +kernel
theorem d6_read_8 : decode b6_read 8 = .ok (.putfield 45, 3) := by decide +kernel
theorem d6_read_11 : decode b6_read 11 = .ok (.aload_n 0, 1) := by decide +kernel
theorem d6_read_12 : decode b6_read 12 = .ok (.aload_n 0, 1) := by decide +kernel
theorem d6_read_13 : decode b6_read 13 = .ok (.getfield 35, 3) := by decide +kernel
theorem d6_read_16 : decode b6_read 16 = .ok (.invokevirtual 49, 3) := by decide +kernel
theorem d6_read_19 : decode b6_read 19 = .ok (.putfield 52, 3) := by decide +kernel
theorem d6_read_22 : decode b6_read 22 = .ok (.iconst 0, 1) := by decide +kernel
theorem d6_read_23 : decode b6_read 23 = .ok (.istore_n 1, 1) := by decide +kernel
theorem d6_read_24 : decode b6_read 24 = .ok (.iload_n 1, 1) := by decide +kernel
theorem d6_read_25 : decode b6_read 25 = .ok (.aload_n 0, 1) := by decide +kernel
theorem d6_read_26 : decode b6_read 26 = .ok (.getfield 45, 3) := by decide +kernel
theorem d6_read_29 : decode b6_read 29 = .ok (.if_icmp .ge 65, 3) := by decide +kernel
theorem d6_read_32 : decode b6_read 32 = .ok (.aload_n 0, 1) := by decide +kernel
theorem d6_read_33 : decode b6_read 33 = .ok (.getfield 7, 3) := by decide +kernel
theorem d6_read_36 : decode b6_read 36 = .ok (.iload_n 1, 1) := by decide +kernel
theorem d6_read_37 : decode b6_read 37 = .ok (.aload_n 0, 1) := by decide +kernel
theorem d6_read_38 : decode b6_read 38 = .ok (.getfield 35, 3) := by decide +kernel
theorem d6_read_41 : decode b6_read 41 = .ok (.iload_n 1, 1) := by decide +kernel
theorem d6_read_42 : decode b6_read 42 = .ok (.invokevirtual 55, 3) := by decide +kernel
theorem d6_read_45 : decode b6_read 45 = .ok (.iastore, 1) := by decide +kernel
theorem d6_read_46 : decode b6_read 46 = .ok (.aload_n 0, 1) := by decide +kernel
theorem d6_read_47 : decode b6_read 47 = .ok (.getfield 13, 3) := by decide +kernel
theorem d6_read_50 : decode b6_read 50 = .ok (.iload_n 1, 1) := by decide +kernel
theorem d6_read_51 : decode b6_read 51 = .ok (.aload_n 0, 1) := by decide +kernel
theorem d6_read_52 : decode b6_read 52 = .ok (.getfield 35, 3) := by decide +kernel
theorem d6_read_55 : decode b6_read 55 = .ok (.iload_n 1, 1) := by decide +kernel
theorem d6_read_56 : decode b6_read 56 = .ok (.invokevirtual 59, 3) := by decide +kernel
theorem d6_read_59 : decode b6_read 59 = .ok (.bastore, 1) := by decide +kernel
theorem d6_read_60 : decode b6_read 60 = .ok (.aload_n 0, 1) := by decide +kernel
theorem d6_read_61 : decode b6_read 61 = .ok (.getfield 17, 3) := by decide +kernel
theorem d6_read_64 : decode b6_read 64 = .ok (.iload_n 1, 1) := by decide +kernel
theorem d6_read_65 : decode b6_read 65 = .ok (.aload_n 0, 1) := by decide +kernel
theorem d6_read_66 : decode b6_read 66 = .ok (.getfield 35, 3) := by decide +kernel
theorem d6_read_69 : decode b6_read 69 = .ok (.iload_n 1, 1) := by decide +kernel
theorem d6_read_70 : decode b6_read 70 = .ok (.invokevirtual 63, 3) := by decide +kernel
theorem d6_read_73 : decode b6_read 73 = .ok (.iastore, 1) := by decide +kernel
theorem d6_read_74 : decode b6_read 74 = .ok (.aload_n 0, 1) := by decide +kernel
theorem d6_read_75 : decode b6_read 75 = .ok (.getfield 20, 3) := by decide +kernel
theorem d6_read_78 : decode b6_read 78 = .ok (.iload_n 1, 1) := by decide +kernel
theorem d6_read_79 : decode b6_read 79 = .ok (.aload_n 0, 1) := by decide +kernel
theorem d6_read_80 : decode b6_read 80 = .ok (.getfield 35, 3) := by decide +kernel
theorem d6_read_83 : decode b6_read 83 = .ok (.iload_n 1, 1) := by decide +kernel
theorem d6_read_84 : decode b6_read 84 = .ok (.invokevirtual 66, 3) := by decide +kernel
theorem d6_read_87 : decode b6_read 87 = .ok (.iastore, 1) := by decide +kernel
theorem d6_read_88 : decode b6_read 88 = .ok (.iinc 1 1, 3) := by decide +kernel
theorem d6_read_91 : decode b6_read 91 = .ok (.goto (-67), 3) := by decide +kernel
theorem d6_read_94 : decode b6_read 94 = .ok (.aload_n 0, 1) := by decide +kernel
theorem d6_read_95 : decode b6_read 95 = .ok (.aload_n 0, 1) := by decide +kernel
theorem d6_read_96 : decode b6_read 96 = .ok (.getfield 35, 3) := by decide +kernel
theorem d6_read_99 : decode b6_read 99 = .ok (.invokevirtual 69, 3) := by decide +kernel
theorem d6_read_102 : decode b6_read 102 = .ok (.putfield 72, 3) := by decide +kernel
theorem d6_read_105 : decode b6_read 105 = .ok (.iconst 0, 1) := by decide +kernel
theorem d6_read_106 : decode b6_read 106 = .ok (.istore_n 1, 1) := by decide +kernel
theorem d6_read_107 : decode b6_read 107 = .ok (.iload_n 1, 1) := by decide +kernel
theorem d6_read_108 : decode b6_read 108 = .ok (.aload_n 0, 1) := by decide +kernel
theorem d6_read_109 : decode b6_read 109 = .ok (.getfield 72, 3) := by decide +kernel
theorem d6_read_112 : decode b6_read 112 = .ok (.if_icmp .ge 65, 3) := by decide +kernel
theorem d6_read_115 : decode b6_read 115 = .ok (.aload_n 0, 1) := by decide +kernel
theorem d6_read_116 : decode b6_read 116 = .ok (.getfield 23, 3) := by decide +kernel
theorem d6_read_119 : decode b6_read 119 = .ok (.iload_n 1, 1) := by decide +kernel
theorem d6_read_120 : decode b6_read 120 = .ok (.aload_n 0, 1) := by decide +kernel
theorem d6_read_121 : decode b6_read 121 = .ok (.getfield 35, 3) := by decide +kernel
theorem d6_read_124 : decode b6_read 124 = .ok (.iload_n 1, 1) := by decide +kernel
theorem d6_read_125 : decode b6_read 125 = .ok (.invokevirtual 75, 3) := by decide +kernel
theorem d6_read_128 : decode b6_read 128 = .ok (.iastore, 1) := by decide +kernel
theorem d6_read_129 : decode b6_read 129 = .ok (.aload_n 0, 1) := by decide +kernel
theorem d6_read_130 : decode b6_read 130 = .ok (.getfield 26, 3) := by decide +kernel
theorem d6_read_133 : decode b6_read 133 = .ok (.iload_n 1, 1) := by decide +kernel
theorem d6_read_134 : decode b6_read 134 = .ok (.aload_n 0, 1) := by decide +kernel
theorem d6_read_135 : decode b6_read 135 = .ok (.getfield 35, 3) := by decide +kernel
theorem d6_read_138 : decode b6_read 138 = .ok (.iload_n 1, 1) := by decide +kernel
theorem d6_read_139 : decode b6_read 139 = .ok (.invokevirtual 78, 3) := by decide +kernel
theorem d6_read_142 : decode b6_read 142 = .ok (.bastore, 1) := by decide +kernel
theorem d6_read_143 : decode b6_read 143 = .ok (.aload_n 0, 1) := by decide +kernel
theorem d6_read_144 : decode b6_read 144 = .ok (.getfield 29, 3) := by decide +kernel
theorem d6_read_147 : decode b6_read 147 = .ok (.iload_n 1, 1) := by decide +kernel
theorem d6_read_148 : decode b6_read 148 = .ok (.aload_n 0, 1) := by decide +kernel
theorem d6_read_149 : decode b6_read 149 = .ok (.getfield 35, 3) := by decide +kernel
theorem d6_read_152 : decode b6_read 152 = .ok (.iload_n 1, 1) := by decide +kernel
theorem d6_read_153 : decode b6_read 153 = .ok (.invokevirtual 81, 3) := by decide +kernel
theorem d6_read_156 : decode b6_read 156 = .ok (.iastore, 1) := by decide +kernel
theorem d6_read_157 : decode b6_read 157 = .ok (.aload_n 0, 1) := by decide +kernel
theorem d6_read_158 : decode b6_read 158 = .ok (.getfield 32, 3) := by decide +kernel
theorem d6_read_161 : decode b6_read 161 = .ok (.iload_n 1, 1) := by decide +kernel
theorem d6_read_162 : decode b6_read 162 = .ok (.aload_n 0, 1) := by decide +kernel
theorem d6_read_163 : decode b6_read 163 = .ok (.getfield 35, 3) := by decide +kernel
theorem d6_read_166 : decode b6_read 166 = .ok (.iload_n 1, 1) := by decide +kernel
theorem d6_read_167 : decode b6_read 167 = .ok (.invokevirtual 84, 3) := by decide +kernel
theorem d6_read_170 : decode b6_read 170 = .ok (.iastore, 1) := by decide +kernel
theorem d6_read_171 : decode b6_read 171 = .ok (.iinc 1 1, 3) := by decide +kernel
theorem d6_read_174 : decode b6_read 174 = .ok (.goto (-67), 3) := by decide +kernel
theorem d6_read_177 : decode b6_read 177 = .ok (.return_, 1) := by decide +kernel
abbrev b6_isFree : ByteArray := prog_8_method_3_code
def y6_isFree : MethodName := ⟨"ChannelScheduleLaw$Own", "isFree", "(ZII)Z"⟩
theorem w6_isFree : YV y6_isFree b6_isFree 5 (some .boolean) 3 := ⟨LW_i 764 (by decide +kernel) (by decide +kernel), LW_i 765 (by decide +kernel) (by decide +kernel), LW_i 51 (by decide +kernel) (by decide +kernel), LW_i 766 (by decide +kernel) (by decide +kernel), by decide +kernel, by decide +kernel⟩
theorem d6_isFree_0 : decode b6_isFree 0 = .ok (.iconst 0, 1) := by decide +kernel
theorem d6_isFree_1 : decode b6_isFree 1 = .ok (.istore 4, 2) := by decide +kernel
theorem d6_isFree_3 : decode b6_isFree 3 = .ok (.iload 4, 2) := by decide +kernel
theorem d6_isFree_5 : decode b6_isFree 5 = .ok (.aload_n 0, 1) := by decide +kernel
theorem d6_isFree_6 : decode b6_isFree 6 = .ok (.getfield 45, 3) := by decide +kernel
theorem d6_isFree_9 : decode b6_isFree 9 = .ok (.if_icmp .ge 45, 3) := by decide +kernel
theorem d6_isFree_12 : decode b6_isFree 12 = .ok (.aload_n 0, 1) := by decide +kernel
theorem d6_isFree_13 : decode b6_isFree 13 = .ok (.getfield 35, 3) := by decide +kernel
theorem d6_isFree_16 : decode b6_isFree 16 = .ok (.aload_n 0, 1) := by decide +kernel
theorem d6_isFree_17 : decode b6_isFree 17 = .ok (.getfield 13, 3) := by decide +kernel
theorem d6_isFree_20 : decode b6_isFree 20 = .ok (.iload 4, 2) := by decide +kernel
theorem d6_isFree_22 : decode b6_isFree 22 = .ok (.baload, 1) := by decide +kernel
theorem d6_isFree_23 : decode b6_isFree 23 = .ok (.aload_n 0, 1) := by decide +kernel
theorem d6_isFree_24 : decode b6_isFree 24 = .ok (.getfield 17, 3) := by decide +kernel
theorem d6_isFree_27 : decode b6_isFree 27 = .ok (.iload 4, 2) := by decide +kernel
theorem d6_isFree_29 : decode b6_isFree 29 = .ok (.iaload, 1) := by decide +kernel
theorem d6_isFree_30 : decode b6_isFree 30 = .ok (.aload_n 0, 1) := by decide +kernel
theorem d6_isFree_31 : decode b6_isFree 31 = .ok (.getfield 20, 3) := by decide +kernel
theorem d6_isFree_34 : decode b6_isFree 34 = .ok (.iload 4, 2) := by decide +kernel
theorem d6_isFree_36 : decode b6_isFree 36 = .ok (.iaload, 1) := by decide +kernel
theorem d6_isFree_37 : decode b6_isFree 37 = .ok (.iload_n 1, 1) := by decide +kernel
theorem d6_isFree_38 : decode b6_isFree 38 = .ok (.iload_n 2, 1) := by decide +kernel
theorem d6_isFree_39 : decode b6_isFree 39 = .ok (.iload_n 3, 1) := by decide +kernel
theorem d6_isFree_40 : decode b6_isFree 40 = .ok (.invokestatic 87, 3) := by decide +kernel
theorem d6_isFree_43 : decode b6_isFree 43 = .ok (.ifCond .eq 5, 3) := by decide +kernel
theorem d6_isFree_46 : decode b6_isFree 46 = .ok (.iconst 0, 1) := by decide +kernel
theorem d6_isFree_47 : decode b6_isFree 47 = .ok (.ireturn, 1) := by decide +kernel
theorem d6_isFree_48 : decode b6_isFree 48 = .ok (.iinc 4 1, 3) := by decide +kernel
theorem d6_isFree_51 : decode b6_isFree 51 = .ok (.goto (-48), 3) := by decide +kernel
theorem d6_isFree_54 : decode b6_isFree 54 = .ok (.iconst 1, 1) := by decide +kernel
theorem d6_isFree_55 : decode b6_isFree 55 = .ok (.ireturn, 1) := by decide +kernel
abbrev b6_find : ByteArray := prog_8_method_4_code
def y6_find : MethodName := ⟨"ChannelScheduleLaw$Own", "find", "(IZII)I"⟩
theorem w6_find : YV y6_find b6_find 6 (some .int) 4 := ⟨LW_i 779 (by decide +kernel) (by decide +kernel), LW_i 780 (by decide +kernel) (by decide +kernel), LW_i 51 (by decide +kernel) (by decide +kernel), LW_i 781 (by decide +kernel) (by decide +kernel), by decide +kernel, by decide +kernel⟩
theorem d6_find_0 : decode b6_find 0 = .ok (.iload_n 3, 1) := by decide +kernel
theorem d6_find_1 : decode b6_find 1 = .ok (.istore 5, 2) := by decide +kernel
theorem d6_find_3 : decode b6_find 3 = .ok (.iload 5, 2) := by decide +kernel
theorem d6_find_5 : decode b6_find 5 = .ok (.iload 4, 2) := by decide +kernel
theorem d6_find_7 : decode b6_find 7 = .ok (.if_icmp .gt 54, 3) := by decide +kernel
theorem d6_find_10 : decode b6_find 10 = .ok (.aload_n 0, 1) := by decide +kernel
theorem d6_find_11 : decode b6_find 11 = .ok (.getfield 45, 3) := by decide +kernel
theorem d6_find_14 : decode b6_find 14 = .ok (.bipush 20, 2) := by decide +kernel
theorem d6_find_16 : decode b6_find 16 = .ok (.if_icmp .ge 45, 3) := by decide +kernel
theorem d6_find_19 : decode b6_find 19 = .ok (.iload 5, 2) := by decide +kernel
theorem d6_find_21 : decode b6_find 21 = .ok (.aload_n 0, 1) := by decide +kernel
theorem d6_find_22 : decode b6_find 22 = .ok (.getfield 35, 3) := by decide +kernel
theorem d6_find_25 : decode b6_find 25 = .ok (.invokevirtual 93, 3) := by decide +kernel
theorem d6_find_28 : decode b6_find 28 = .ok (.if_icmp .lt 27, 3) := by decide +kernel
theorem d6_find_31 : decode b6_find 31 = .ok (.aload_n 0, 1) := by decide +kernel
theorem d6_find_32 : decode b6_find 32 = .ok (.iload_n 2, 1) := by decide +kernel
theorem d6_find_33 : decode b6_find 33 = .ok (.iload 5, 2) := by decide +kernel
theorem d6_find_35 : decode b6_find 35 = .ok (.iload 5, 2) := by decide +kernel
theorem d6_find_37 : decode b6_find 37 = .ok (.aload_n 0, 1) := by decide +kernel
theorem d6_find_38 : decode b6_find 38 = .ok (.getfield 35, 3) := by decide +kernel
theorem d6_find_41 : decode b6_find 41 = .ok (.iload_n 1, 1) := by decide +kernel
theorem d6_find_42 : decode b6_find 42 = .ok (.invokevirtual 96, 3) := by decide +kernel
theorem d6_find_45 : decode b6_find 45 = .ok (.iadd, 1) := by decide +kernel
theorem d6_find_46 : decode b6_find 46 = .ok (.invokevirtual 99, 3) := by decide +kernel
theorem d6_find_49 : decode b6_find 49 = .ok (.ifCond .eq 6, 3) := by decide +kernel
theorem d6_find_52 : decode b6_find 52 = .ok (.iload 5, 2) := by decide +kernel
theorem d6_find_54 : decode b6_find 54 = .ok (.ireturn, 1) := by decide +kernel
theorem d6_find_55 : decode b6_find 55 = .ok (.iinc 5 1, 3) := by decide +kernel
theorem d6_find_58 : decode b6_find 58 = .ok (.goto (-55), 3) := by decide +kernel
theorem d6_find_61 : decode b6_find 61 = .ok (.iconst (-1), 1) := by decide +kernel
theorem d6_find_62 : decode b6_find 62 = .ok (.ireturn, 1) := by decide +kernel
abbrev b6_add : ByteArray := prog_8_method_5_code
def y6_add : MethodName := ⟨"ChannelScheduleLaw$Own", "add", "(IZI)V"⟩
theorem w6_add : YV y6_add b6_add 4 none 3 := ⟨LW_i 786 (by decide +kernel) (by decide +kernel), LW_i 787 (by decide +kernel) (by decide +kernel), LW_i 51 (by decide +kernel) (by decide +kernel), LW_i 788 (by decide +kernel) (by decide +kernel), by decide +kernel, by decide +kernel⟩
theorem d6_add_0 : decode b6_add 0 = .ok (.aload_n 0, 1) := by decide +kernel
theorem d6_add_1 : decode b6_add 1 = .ok (.getfield 7, 3) := by decide +kernel
theorem d6_add_4 : decode b6_add 4 = .ok (.aload_n 0, 1) := by decide +kernel
theorem d6_add_5 : decode b6_add 5 = .ok (.getfield 45, 3) := by decide +kernel
theorem d6_add_8 : decode b6_add 8 = .ok (.iload_n 1, 1) := by decide +kernel
theorem d6_add_9 : decode b6_add 9 = .ok (.iastore, 1) := by decide +kernel
theorem d6_add_10 : decode b6_add 10 = .ok (.aload_n 0, 1) := by decide +kernel
theorem d6_add_11 : decode b6_add 11 = .ok (.getfield 13, 3) := by decide +kernel
theorem d6_add_14 : decode b6_add 14 = .ok (.aload_n 0, 1) := by decide +kernel
theorem d6_add_15 : decode b6_add 15 = .ok (.getfield 45, 3) := by decide +kernel
theorem d6_add_18 : decode b6_add 18 = .ok (.iload_n 2, 1) := by decide +kernel
theorem d6_add_19 : decode b6_add 19 = .ok (.bastore, 1) := by decide +kernel
theorem d6_add_20 : decode b6_add 20 = .ok (.aload_n 0, 1) := by decide +kernel
theorem d6_add_21 : decode b6_add 21 = .ok (.getfield 17, 3) := by decide +kernel
theorem d6_add_24 : decode b6_add 24 = .ok (.aload_n 0, 1) := by decide +kernel
theorem d6_add_25 : decode b6_add 25 = .ok (.getfield 45, 3) := by decide +kernel
theorem d6_add_28 : decode b6_add 28 = .ok (.iload_n 3, 1) := by decide +kernel
theorem d6_add_29 : decode b6_add 29 = .ok (.iastore, 1) := by decide +kernel
theorem d6_add_30 : decode b6_add 30 = .ok (.aload_n 0, 1) := by decide +kernel
theorem d6_add_31 : decode b6_add 31 = .ok (.getfield 20, 3) := by decide +kernel
theorem d6_add_34 : decode b6_add 34 = .ok (.aload_n 0, 1) := by decide +kernel
theorem d6_add_35 : decode b6_add 35 = .ok (.getfield 45, 3) := by decide +kernel
theorem d6_add_38 : decode b6_add 38 = .ok (.iload_n 3, 1) := by decide +kernel
theorem d6_add_39 : decode b6_add 39 = .ok (.aload_n 0, 1) := by decide +kernel
theorem d6_add_40 : decode b6_add 40 = .ok (.getfield 35, 3) := by decide +kernel
theorem d6_add_43 : decode b6_add 43 = .ok (.iload_n 1, 1) := by decide +kernel
theorem d6_add_44 : decode b6_add 44 = .ok (.invokevirtual 96, 3) := by decide +kernel
theorem d6_add_47 : decode b6_add 47 = .ok (.iadd, 1) := by decide +kernel
theorem d6_add_48 : decode b6_add 48 = .ok (.iastore, 1) := by decide +kernel
theorem d6_add_49 : decode b6_add 49 = .ok (.aload_n 0, 1) := by decide +kernel
theorem d6_add_50 : decode b6_add 50 = .ok (.dup, 1) := by decide +kernel
theorem d6_add_51 : decode b6_add 51 = .ok (.getfield 45, 3) := by decide +kernel
theorem d6_add_54 : decode b6_add 54 = .ok (.iconst 1, 1) := by decide +kernel
theorem d6_add_55 : decode b6_add 55 = .ok (.iadd, 1) := by decide +kernel
theorem d6_add_56 : decode b6_add 56 = .ok (.putfield 45, 3) := by decide +kernel
theorem d6_add_59 : decode b6_add 59 = .ok (.return_, 1) := by decide +kernel
abbrev b6_process : ByteArray := prog_8_method_6_code
def y6_process : MethodName := ⟨"ChannelScheduleLaw$Own", "process", "()I"⟩
theorem w6_process : YV y6_process b6_process 5 (some .int) 0 := ⟨LW_i 790 (by decide +kernel) (by decide +kernel), LW_i 791 (by decide +kernel) (by decide +kernel), LW_i 51 (by decide +kernel) (by decide +kernel), LW_i 792 (by decide +kernel) (by decide +kernel), by decide +kernel, by decide +kernel⟩
theorem d6_process_0 : decode b6_process 0 = .ok (.iconst 0, 1) := by decide +kernel
theorem d6_process_1 : decode b6_process 1 = .ok (.istore_n 1, 1) := by decide +kernel
theorem d6_process_2 : decode b6_process 2 = .ok (.iconst 0, 1) := by decide +kernel
theorem d6_process_3 : decode b6_process 3 = .ok (.istore_n 2, 1) := by decide +kernel
theorem d6_process_4 : decode b6_process 4 = .ok (.iconst 0, 1) := by decide +kernel
theorem d6_process_5 : decode b6_process 5 = .ok (.istore_n 3, 1) := by decide +kernel
theorem d6_process_6 : decode b6_process 6 = .ok (.iload_n 3, 1) := by decide +kernel
theorem d6_process_7 : decode b6_process 7 = .ok (.aload_n 0, 1) := by decide +kernel
theorem d6_process_8 : decode b6_process 8 = .ok (.getfield 72, 3) := by decide +kernel
theorem d6_process_11 : decode b6_process 11 = .ok (.if_icmp .ge 119, 3) := by decide +kernel
theorem d6_process_14 : decode b6_process 14 = .ok (.aload_n 0, 1) := by decide +kernel
theorem d6_process_15 : decode b6_process 15 = .ok (.aload_n 0, 1) := by decide +kernel
theorem d6_process_16 : decode b6_process 16 = .ok (.getfield 23, 3) := by decide +kernel
theorem d6_process_19 : decode b6_process 19 = .ok (.iload_n 3, 1) := by decide +kernel
theorem d6_process_20 : decode b6_process 20 = .ok (.iaload, 1) := by decide +kernel
theorem d6_process_21 : decode b6_process 21 = .ok (.aload_n 0, 1) := by decide +kernel
theorem d6_process_22 : decode b6_process 22 = .ok (.getfield 26, 3) := by decide +kernel
theorem d6_process_25 : decode b6_process 25 = .ok (.iload_n 3, 1) := by decide +kernel
theorem d6_process_26 : decode b6_process 26 = .ok (.baload, 1) := by decide +kernel
theorem d6_process_27 : decode b6_process 27 = .ok (.aload_n 0, 1) := by decide +kernel
theorem d6_process_28 : decode b6_process 28 = .ok (.getfield 29, 3) := by decide +kernel
theorem d6_process_31 : decode b6_process 31 = .ok (.iload_n 3, 1) := by decide +kernel
theorem d6_process_32 : decode b6_process 32 = .ok (.iaload, 1) := by decide +kernel
theorem d6_process_33 : decode b6_process 33 = .ok (.aload_n 0, 1) := by decide +kernel
theorem d6_process_34 : decode b6_process 34 = .ok (.getfield 32, 3) := by decide +kernel
theorem d6_process_37 : decode b6_process 37 = .ok (.iload_n 3, 1) := by decide +kernel
theorem d6_process_38 : decode b6_process 38 = .ok (.iaload, 1) := by decide +kernel
theorem d6_process_39 : decode b6_process 39 = .ok (.invokevirtual 103, 3) := by decide +kernel
theorem d6_process_42 : decode b6_process 42 = .ok (.istore 4, 2) := by decide +kernel
theorem d6_process_44 : decode b6_process 44 = .ok (.iload 4, 2) := by decide +kernel
theorem d6_process_46 : decode b6_process 46 = .ok (.ifCond .lt 27, 3) := by decide +kernel
theorem d6_process_49 : decode b6_process 49 = .ok (.aload_n 0, 1) := by decide +kernel
theorem d6_process_50 : decode b6_process 50 = .ok (.aload_n 0, 1) := by decide +kernel
theorem d6_process_51 : decode b6_process 51 = .ok (.getfield 23, 3) := by decide +kernel
theorem d6_process_54 : decode b6_process 54 = .ok (.iload_n 3, 1) := by decide +kernel
theorem d6_process_55 : decode b6_process 55 = .ok (.iaload, 1) := by decide +kernel
theorem d6_process_56 : decode b6_process 56 = .ok (.aload_n 0, 1) := by decide +kernel
theorem d6_process_57 : decode b6_process 57 = .ok (.getfield 26, 3) := by decide +kernel
theorem d6_process_60 : decode b6_process 60 = .ok (.iload_n 3, 1) := by decide +kernel
theorem d6_process_61 : decode b6_process 61 = .ok (.baload, 1) := by decide +kernel
theorem d6_process_62 : decode b6_process 62 = .ok (.iload 4, 2) := by decide +kernel
theorem d6_process_64 : decode b6_process 64 = .ok (.invokevirtual 107, 3) := by decide +kernel
theorem d6_process_67 : decode b6_process 67 = .ok (.iinc 1 1, 3) := by decide +kernel
theorem d6_process_70 : decode b6_process 70 = .ok (.goto 54, 3) := by decide +kernel
theorem d6_process_73 : decode b6_process 73 = .ok (.aload_n 0, 1) := by decide +kernel
theorem d6_process_74 : decode b6_process 74 = .ok (.getfield 23, 3) := by decide +kernel
theorem d6_process_77 : decode b6_process 77 = .ok (.iload_n 2, 1) := by decide +kernel
theorem d6_process_78 : decode b6_process 78 = .ok (.aload_n 0, 1) := by decide +kernel
theorem d6_process_79 : decode b6_process 79 = .ok (.getfield 23, 3) := by decide +kernel
theorem d6_process_82 : decode b6_process 82 = .ok (.iload_n 3, 1) := by decide +kernel
theorem d6_process_83 : decode b6_process 83 = .ok (.iaload, 1) := by decide +kernel
theorem d6_process_84 : decode b6_process 84 = .ok (.iastore, 1) := by decide +kernel
theorem d6_process_85 : decode b6_process 85 = .ok (.aload_n 0, 1) := by decide +kernel
theorem d6_process_86 : decode b6_process 86 = .ok (.getfield 26, 3) := by decide +kernel
theorem d6_process_89 : decode b6_process 89 = .ok (.iload_n 2, 1) := by decide +kernel
theorem d6_process_90 : decode b6_process 90 = .ok (.aload_n 0, 1) := by decide +kernel
theorem d6_process_91 : decode b6_process 91 = .ok (.getfield 26, 3) := by decide +kernel
theorem d6_process_94 : decode b6_process 94 = .ok (.iload_n 3, 1) := by decide +kernel
theorem d6_process_95 : decode b6_process 95 = .ok (.baload, 1) := by decide +kernel
theorem d6_process_96 : decode b6_process 96 = .ok (.bastore, 1) := by decide +kernel
theorem d6_process_97 : decode b6_process 97 = .ok (.aload_n 0, 1) := by decide +kernel
theorem d6_process_98 : decode b6_process 98 = .ok (.getfield 29, 3) := by decide +kernel
theorem d6_process_101 : decode b6_process 101 = .ok (.iload_n 2, 1) := by decide +kernel
theorem d6_process_102 : decode b6_process 102 = .ok (.aload_n 0, 1) := by decide +kernel
theorem d6_process_103 : decode b6_process 103 = .ok (.getfield 29, 3) := by decide +kernel
theorem d6_process_106 : decode b6_process 106 = .ok (.iload_n 3, 1) := by decide +kernel
theorem d6_process_107 : decode b6_process 107 = .ok (.iaload, 1) := by decide +kernel
theorem d6_process_108 : decode b6_process 108 = .ok (.iastore, 1) := by decide +kernel
theorem d6_process_109 : decode b6_process 109 = .ok (.aload_n 0, 1) := by decide +kernel
theorem d6_process_110 : decode b6_process 110 = .ok (.getfield 32, 3) := by decide +kernel
theorem d6_process_113 : decode b6_process 113 = .ok (.iload_n 2, 1) := by decide +kernel
theorem d6_process_114 : decode b6_process 114 = .ok (.aload_n 0, 1) := by decide +kernel
theorem d6_process_115 : decode b6_process 115 = .ok (.getfield 32, 3) := by decide +kernel
theorem d6_process_118 : decode b6_process 118 = .ok (.iload_n 3, 1) := by decide +kernel
theorem d6_process_119 : decode b6_process 119 = .ok (.iaload, 1) := by decide +kernel
theorem d6_process_120 : decode b6_process 120 = .ok (.iastore, 1) := by decide +kernel
theorem d6_process_121 : decode b6_process 121 = .ok (.iinc 2 1, 3) := by decide +kernel
theorem d6_process_124 : decode b6_process 124 = .ok (.iinc 3 1, 3) := by decide +kernel
theorem d6_process_127 : decode b6_process 127 = .ok (.goto (-121), 3) := by decide +kernel
theorem d6_process_130 : decode b6_process 130 = .ok (.aload_n 0, 1) := by decide +kernel
theorem d6_process_131 : decode b6_process 131 = .ok (.iload_n 2, 1) := by decide +kernel
theorem d6_process_132 : decode b6_process 132 = .ok (.putfield 72, 3) := by decide +kernel
theorem d6_process_135 : decode b6_process 135 = .ok (.aload_n 0, 1) := by decide +kernel
theorem d6_process_136 : decode b6_process 136 = .ok (.dup, 1) := by decide +kernel
theorem d6_process_137 : decode b6_process 137 = .ok (.getfield 52, 3) := by decide +kernel
theorem d6_process_140 : decode b6_process 140 = .ok (.iload_n 1, 1) := by decide +kernel
theorem d6_process_141 : decode b6_process 141 = .ok (.iadd, 1) := by decide +kernel
theorem d6_process_142 : decode b6_process 142 = .ok (.putfield 52, 3) := by decide +kernel
theorem d6_process_145 : decode b6_process 145 = .ok (.iload_n 1, 1) := by decide +kernel
theorem d6_process_146 : decode b6_process 146 = .ok (.ireturn, 1) := by decide +kernel
abbrev b6_remove : ByteArray := prog_8_method_7_code
def y6_remove : MethodName := ⟨"ChannelScheduleLaw$Own", "remove", "(I)V"⟩
theorem w6_remove : YV y6_remove b6_remove 3 none 1 := ⟨LW_i 796 (by decide +kernel) (by decide +kernel), LW_i 797 (by decide +kernel) (by decide +kernel), LW_i 51 (by decide +kernel) (by decide +kernel), LW_i 798 (by decide +kernel) (by decide +kernel), by decide +kernel, by decide +kernel⟩
theorem d6_remove_0 : decode b6_remove 0 = .ok (.aload_n 0, 1) := by decide +kernel
theorem d6_remove_1 : decode b6_remove 1 = .ok (.dup, 1) := by decide +kernel
theorem d6_remove_2 : decode b6_remove 2 = .ok (.getfield 45, 3) := by decide +kernel
theorem d6_remove_5 : decode b6_remove 5 = .ok (.iconst 1, 1) := by decide +kernel
theorem d6_remove_6 : decode b6_remove 6 = .ok (.isub, 1) := by decide +kernel
theorem d6_remove_7 : decode b6_remove 7 = .ok (.putfield 45, 3) := by decide +kernel
theorem d6_remove_10 : decode b6_remove 10 = .ok (.iload_n 1, 1) := by decide +kernel
theorem d6_remove_11 : decode b6_remove 11 = .ok (.istore_n 2, 1) := by decide +kernel
theorem d6_remove_12 : decode b6_remove 12 = .ok (.iload_n 2, 1) := by decide +kernel
theorem d6_remove_13 : decode b6_remove 13 = .ok (.aload_n 0, 1) := by decide +kernel
theorem d6_remove_14 : decode b6_remove 14 = .ok (.getfield 45, 3) := by decide +kernel
theorem d6_remove_17 : decode b6_remove 17 = .ok (.if_icmp .ge 65, 3) := by decide +kernel
theorem d6_remove_20 : decode b6_remove 20 = .ok (.aload_n 0, 1) := by decide +kernel
theorem d6_remove_21 : decode b6_remove 21 = .ok (.getfield 7, 3) := by decide +kernel
theorem d6_remove_24 : decode b6_remove 24 = .ok (.iload_n 2, 1) := by decide +kernel
theorem d6_remove_25 : decode b6_remove 25 = .ok (.aload_n 0, 1) := by decide +kernel
theorem d6_remove_26 : decode b6_remove 26 = .ok (.getfield 7, 3) := by decide +kernel
theorem d6_remove_29 : decode b6_remove 29 = .ok (.iload_n 2, 1) := by decide +kernel
theorem d6_remove_30 : decode b6_remove 30 = .ok (.iconst 1, 1) := by decide +kernel
theorem d6_remove_31 : decode b6_remove 31 = .ok (.iadd, 1) := by decide +kernel
theorem d6_remove_32 : decode b6_remove 32 = .ok (.iaload, 1) := by decide +kernel
theorem d6_remove_33 : decode b6_remove 33 = .ok (.iastore, 1) := by decide +kernel
theorem d6_remove_34 : decode b6_remove 34 = .ok (.aload_n 0, 1) := by decide +kernel
theorem d6_remove_35 : decode b6_remove 35 = .ok (.getfield 13, 3) := by decide +kernel
theorem d6_remove_38 : decode b6_remove 38 = .ok (.iload_n 2, 1) := by decide +kernel
theorem d6_remove_39 : decode b6_remove 39 = .ok (.aload_n 0, 1) := by decide +kernel
theorem d6_remove_40 : decode b6_remove 40 = .ok (.getfield 13, 3) := by decide +kernel
theorem d6_remove_43 : decode b6_remove 43 = .ok (.iload_n 2, 1) := by decide +kernel
theorem d6_remove_44 : decode b6_remove 44 = .ok (.iconst 1, 1) := by decide +kernel
theorem d6_remove_45 : decode b6_remove 45 = .ok (.iadd, 1) := by decide +kernel
theorem d6_remove_46 : decode b6_remove 46 = .ok (.baload, 1) := by decide +kernel
theorem d6_remove_47 : decode b6_remove 47 = .ok (.bastore, 1) := by decide +kernel
theorem d6_remove_48 : decode b6_remove 48 = .ok (.aload_n 0, 1) := by decide +kernel
theorem d6_remove_49 : decode b6_remove 49 = .ok (.getfield 17, 3) := by decide +kernel
theorem d6_remove_52 : decode b6_remove 52 = .ok (.iload_n 2, 1) := by decide +kernel
theorem d6_remove_53 : decode b6_remove 53 = .ok (.aload_n 0, 1) := by decide +kernel
theorem d6_remove_54 : decode b6_remove 54 = .ok (.getfield 17, 3) := by decide +kernel
theorem d6_remove_57 : decode b6_remove 57 = .ok (.iload_n 2, 1) := by decide +kernel
theorem d6_remove_58 : decode b6_remove 58 = .ok (.iconst 1, 1) := by decide +kernel
theorem d6_remove_59 : decode b6_remove 59 = .ok (.iadd, 1) := by decide +kernel
theorem d6_remove_60 : decode b6_remove 60 = .ok (.iaload, 1) := by decide +kernel
theorem d6_remove_61 : decode b6_remove 61 = .ok (.iastore, 1) := by decide +kernel
theorem d6_remove_62 : decode b6_remove 62 = .ok (.aload_n 0, 1) := by decide +kernel
theorem d6_remove_63 : decode b6_remove 63 = .ok (.getfield 20, 3) := by decide +kernel
theorem d6_remove_66 : decode b6_remove 66 = .ok (.iload_n 2, 1) := by decide +kernel
theorem d6_remove_67 : decode b6_remove 67 = .ok (.aload_n 0, 1) := by decide +kernel
theorem d6_remove_68 : decode b6_remove 68 = .ok (.getfield 20, 3) := by decide +kernel
theorem d6_remove_71 : decode b6_remove 71 = .ok (.iload_n 2, 1) := by decide +kernel
theorem d6_remove_72 : decode b6_remove 72 = .ok (.iconst 1, 1) := by decide +kernel
theorem d6_remove_73 : decode b6_remove 73 = .ok (.iadd, 1) := by decide +kernel
theorem d6_remove_74 : decode b6_remove 74 = .ok (.iaload, 1) := by decide +kernel
theorem d6_remove_75 : decode b6_remove 75 = .ok (.iastore, 1) := by decide +kernel
theorem d6_remove_76 : decode b6_remove 76 = .ok (.iinc 2 1, 3) := by decide +kernel
theorem d6_remove_79 : decode b6_remove 79 = .ok (.goto (-67), 3) := by decide +kernel
theorem d6_remove_82 : decode b6_remove 82 = .ok (.return_, 1) := by decide +kernel
abbrev b6_agrees : ByteArray := prog_8_method_8_code
def y6_agrees : MethodName := ⟨"ChannelScheduleLaw$Own", "agrees", "()Z"⟩
theorem w6_agrees : YV y6_agrees b6_agrees 4 (some .boolean) 0 := ⟨LW_i 800 (by decide +kernel) (by decide +kernel), LW_i 801 (by decide +kernel) (by decide +kernel), LW_i 51 (by decide +kernel) (by decide +kernel), LW_i 802 (by decide +kernel) (by decide +kernel), by decide +kernel, by decide +kernel⟩
theorem d6_agrees_0 : decode b6_agrees 0 = .ok (.aload_n 0, 1) := by decide +kernel
theorem d6_agrees_1 : decode b6_agrees 1 = .ok (.getfield 35, 3) := by decide +kernel
theorem d6_agrees_4 : decode b6_agrees 4 = .ok (.invokevirtual 39, 3) := by decide +kernel
theorem d6_agrees_7 : decode b6_agrees 7 = .ok (.aload_n 0, 1) := by decide +kernel
theorem d6_agrees_8 : decode b6_agrees 8 = .ok (.getfield 45, 3) := by decide +kernel
theorem d6_agrees_11 : decode b6_agrees 11 = .ok (.if_icmp .ne 31, 3) := by decide +kernel
theorem d6_agrees_14 : decode b6_agrees 14 = .ok (.aload_n 0, 1) := by decide +kernel
theorem d6_agrees_15 : decode b6_agrees 15 = .ok (.getfield 35, 3) := by decide +kernel
theorem d6_agrees_18 : decode b6_agrees 18 = .ok (.invokevirtual 69, 3) := by decide +kernel
theorem d6_agrees_21 : decode b6_agrees 21 = .ok (.aload_n 0, 1) := by decide +kernel
theorem d6_agrees_22 : decode b6_agrees 22 = .ok (.getfield 72, 3) := by decide +kernel
theorem d6_agrees_25 : decode b6_agrees 25 = .ok (.if_icmp .ne 17, 3) := by decide +kernel
theorem d6_agrees_28 : decode b6_agrees 28 = .ok (.aload_n 0, 1) := by decide +kernel
theorem d6_agrees_29 : decode b6_agrees 29 = .ok (.getfield 35, 3) := by decide +kernel
theorem d6_agrees_32 : decode b6_agrees 32 = .ok (.invokevirtual 49, 3) := by decide +kernel
theorem d6_agrees_35 : decode b6_agrees 35 = .ok (.aload_n 0, 1) := by decide +kernel
theorem d6_agrees_36 : decode b6_agrees 36 = .ok (.getfield 52, 3) := by decide +kernel
theorem d6_agrees_39 : decode b6_agrees 39 = .ok (.if_icmp .eq 5, 3) := by decide +kernel
theorem d6_agrees_42 : decode b6_agrees 42 = .ok (.iconst 0, 1) := by decide +kernel
theorem d6_agrees_43 : decode b6_agrees 43 = .ok (.ireturn, 1) := by decide +kernel
theorem d6_agrees_44 : decode b6_agrees 44 = .ok (.iconst 0, 1) := by decide +kernel
theorem d6_agrees_45 : decode b6_agrees 45 = .ok (.istore_n 1, 1) := by decide +kernel
theorem d6_agrees_46 : decode b6_agrees 46 = .ok (.iload_n 1, 1) := by decide +kernel
theorem d6_agrees_47 : decode b6_agrees 47 = .ok (.aload_n 0, 1) := by decide +kernel
theorem d6_agrees_48 : decode b6_agrees 48 = .ok (.getfield 45, 3) := by decide +kernel
theorem d6_agrees_51 : decode b6_agrees 51 = .ok (.if_icmp .ge 272, 3) := by decide +kernel
theorem d6_agrees_54 : decode b6_agrees 54 = .ok (.iconst 0, 1) := by decide +kernel
theorem d6_agrees_55 : decode b6_agrees 55 = .ok (.istore_n 2, 1) := by decide +kernel
theorem d6_agrees_56 : decode b6_agrees 56 = .ok (.iconst 0, 1) := by decide +kernel
theorem d6_agrees_57 : decode b6_agrees 57 = .ok (.istore_n 3, 1) := by decide +kernel
theorem d6_agrees_58 : decode b6_agrees 58 = .ok (.iload_n 3, 1) := by decide +kernel
theorem d6_agrees_59 : decode b6_agrees 59 = .ok (.aload_n 0, 1) := by decide +kernel
theorem d6_agrees_60 : decode b6_agrees 60 = .ok (.getfield 45, 3) := by decide +kernel
theorem d6_agrees_63 : decode b6_agrees 63 = .ok (.if_icmp .ge 184, 3) := by decide +kernel
theorem d6_agrees_66 : decode b6_agrees 66 = .ok (.iload_n 2, 1) := by decide +kernel
theorem d6_agrees_67 : decode b6_agrees 67 = .ok (.aload_n 0, 1) := by decide +kernel
theorem d6_agrees_68 : decode b6_agrees 68 = .ok (.getfield 17, 3) := by decide +kernel
theorem d6_agrees_71 : decode b6_agrees 71 = .ok (.iload_n 3, 1) := by decide +kernel
theorem d6_agrees_72 : decode b6_agrees 72 = .ok (.iaload, 1) := by decide +kernel
theorem d6_agrees_73 : decode b6_agrees 73 = .ok (.aload_n 0, 1) := by decide +kernel
theorem d6_agrees_74 : decode b6_agrees 74 = .ok (.getfield 17, 3) := by decide +kernel
theorem d6_agrees_77 : decode b6_agrees 77 = .ok (.iload_n 1, 1) := by decide +kernel
theorem d6_agrees_78 : decode b6_agrees 78 = .ok (.iaload, 1) := by decide +kernel
theorem d6_agrees_79 : decode b6_agrees 79 = .ok (.if_icmp .ge 7, 3) := by decide +kernel
theorem d6_agrees_82 : decode b6_agrees 82 = .ok (.iconst 1, 1) := by decide +kernel
theorem d6_agrees_83 : decode b6_agrees 83 = .ok (.goto 4, 3) := by decide +kernel
theorem d6_agrees_86 : decode b6_agrees 86 = .ok (.iconst 0, 1) := by decide +kernel
theorem d6_agrees_87 : decode b6_agrees 87 = .ok (.iadd, 1) := by decide +kernel
theorem d6_agrees_88 : decode b6_agrees 88 = .ok (.istore_n 2, 1) := by decide +kernel
theorem d6_agrees_89 : decode b6_agrees 89 = .ok (.iload_n 3, 1) := by decide +kernel
theorem d6_agrees_90 : decode b6_agrees 90 = .ok (.iload_n 1, 1) := by decide +kernel
theorem d6_agrees_91 : decode b6_agrees 91 = .ok (.if_icmp .eq 51, 3) := by decide +kernel
theorem d6_agrees_94 : decode b6_agrees 94 = .ok (.aload_n 0, 1) := by decide +kernel
theorem d6_agrees_95 : decode b6_agrees 95 = .ok (.getfield 35, 3) := by decide +kernel
theorem d6_agrees_98 : decode b6_agrees 98 = .ok (.aload_n 0, 1) := by decide +kernel
theorem d6_agrees_99 : decode b6_agrees 99 = .ok (.getfield 13, 3) := by decide +kernel
theorem d6_agrees_102 : decode b6_agrees 102 = .ok (.iload_n 3, 1) := by decide +kernel
theorem d6_agrees_103 : decode b6_agrees 103 = .ok (.baload, 1) := by decide +kernel
theorem d6_agrees_104 : decode b6_agrees 104 = .ok (.aload_n 0, 1) := by decide +kernel
theorem d6_agrees_105 : decode b6_agrees 105 = .ok (.getfield 17, 3) := by decide +kernel
theorem d6_agrees_108 : decode b6_agrees 108 = .ok (.iload_n 3, 1) := by decide +kernel
theorem d6_agrees_109 : decode b6_agrees 109 = .ok (.iaload, 1) := by decide +kernel
theorem d6_agrees_110 : decode b6_agrees 110 = .ok (.aload_n 0, 1) := by decide +kernel
theorem d6_agrees_111 : decode b6_agrees 111 = .ok (.getfield 20, 3) := by decide +kernel
theorem d6_agrees_114 : decode b6_agrees 114 = .ok (.iload_n 3, 1) := by decide +kernel
theorem d6_agrees_115 : decode b6_agrees 115 = .ok (.iaload, 1) := by decide +kernel
theorem d6_agrees_116 : decode b6_agrees 116 = .ok (.aload_n 0, 1) := by decide +kernel
theorem d6_agrees_117 : decode b6_agrees 117 = .ok (.getfield 13, 3) := by decide +kernel
theorem d6_agrees_120 : decode b6_agrees 120 = .ok (.iload_n 1, 1) := by decide +kernel
theorem d6_agrees_121 : decode b6_agrees 121 = .ok (.baload, 1) := by decide +kernel
theorem d6_agrees_122 : decode b6_agrees 122 = .ok (.aload_n 0, 1) := by decide +kernel
theorem d6_agrees_123 : decode b6_agrees 123 = .ok (.getfield 17, 3) := by decide +kernel
theorem d6_agrees_126 : decode b6_agrees 126 = .ok (.iload_n 1, 1) := by decide +kernel
theorem d6_agrees_127 : decode b6_agrees 127 = .ok (.iaload, 1) := by decide +kernel
theorem d6_agrees_128 : decode b6_agrees 128 = .ok (.aload_n 0, 1) := by decide +kernel
theorem d6_agrees_129 : decode b6_agrees 129 = .ok (.getfield 20, 3) := by decide +kernel
theorem d6_agrees_132 : decode b6_agrees 132 = .ok (.iload_n 1, 1) := by decide +kernel
theorem d6_agrees_133 : decode b6_agrees 133 = .ok (.iaload, 1) := by decide +kernel
theorem d6_agrees_134 : decode b6_agrees 134 = .ok (.invokestatic 87, 3) := by decide +kernel
theorem d6_agrees_137 : decode b6_agrees 137 = .ok (.ifCond .eq 5, 3) := by decide +kernel
theorem d6_agrees_140 : decode b6_agrees 140 = .ok (.iconst 0, 1) := by decide +kernel
theorem d6_agrees_141 : decode b6_agrees 141 = .ok (.ireturn, 1) := by decide +kernel
theorem d6_agrees_142 : decode b6_agrees 142 = .ok (.iload_n 3, 1) := by decide +kernel
theorem d6_agrees_143 : decode b6_agrees 143 = .ok (.iload_n 1, 1) := by decide +kernel
theorem d6_agrees_144 : decode b6_agrees 144 = .ok (.if_icmp .eq 50, 3) := by decide +kernel
theorem d6_agrees_147 : decode b6_agrees 147 = .ok (.aload_n 0, 1) := by decide +kernel
theorem d6_agrees_148 : decode b6_agrees 148 = .ok (.getfield 13, 3) := by decide +kernel
theorem d6_agrees_151 : decode b6_agrees 151 = .ok (.iload_n 3, 1) := by decide +kernel
theorem d6_agrees_152 : decode b6_agrees 152 = .ok (.baload, 1) := by decide +kernel
theorem d6_agrees_153 : decode b6_agrees 153 = .ok (.aload_n 0, 1) := by decide +kernel
theorem d6_agrees_154 : decode b6_agrees 154 = .ok (.getfield 13, 3) := by decide +kernel
theorem d6_agrees_157 : decode b6_agrees 157 = .ok (.iload_n 1, 1) := by decide +kernel
theorem d6_agrees_158 : decode b6_agrees 158 = .ok (.baload, 1) := by decide +kernel
theorem d6_agrees_159 : decode b6_agrees 159 = .ok (.if_icmp .eq 35, 3) := by decide +kernel
theorem d6_agrees_162 : decode b6_agrees 162 = .ok (.aload_n 0, 1) := by decide +kernel
theorem d6_agrees_163 : decode b6_agrees 163 = .ok (.getfield 17, 3) := by decide +kernel
theorem d6_agrees_166 : decode b6_agrees 166 = .ok (.iload_n 3, 1) := by decide +kernel
theorem d6_agrees_167 : decode b6_agrees 167 = .ok (.iaload, 1) := by decide +kernel
theorem d6_agrees_168 : decode b6_agrees 168 = .ok (.aload_n 0, 1) := by decide +kernel
theorem d6_agrees_169 : decode b6_agrees 169 = .ok (.getfield 20, 3) := by decide +kernel
theorem d6_agrees_172 : decode b6_agrees 172 = .ok (.iload_n 1, 1) := by decide +kernel
theorem d6_agrees_173 : decode b6_agrees 173 = .ok (.iaload, 1) := by decide +kernel
theorem d6_agrees_174 : decode b6_agrees 174 = .ok (.if_icmp .ge 20, 3) := by decide +kernel
theorem d6_agrees_177 : decode b6_agrees 177 = .ok (.aload_n 0, 1) := by decide +kernel
theorem d6_agrees_178 : decode b6_agrees 178 = .ok (.getfield 17, 3) := by decide +kernel
theorem d6_agrees_181 : decode b6_agrees 181 = .ok (.iload_n 1, 1) := by decide +kernel
theorem d6_agrees_182 : decode b6_agrees 182 = .ok (.iaload, 1) := by decide +kernel
theorem d6_agrees_183 : decode b6_agrees 183 = .ok (.aload_n 0, 1) := by decide +kernel
theorem d6_agrees_184 : decode b6_agrees 184 = .ok (.getfield 20, 3) := by decide +kernel
theorem d6_agrees_187 : decode b6_agrees 187 = .ok (.iload_n 3, 1) := by decide +kernel
theorem d6_agrees_188 : decode b6_agrees 188 = .ok (.iaload, 1) := by decide +kernel
theorem d6_agrees_189 : decode b6_agrees 189 = .ok (.if_icmp .ge 5, 3) := by decide +kernel
theorem d6_agrees_192 : decode b6_agrees 192 = .ok (.iconst 0, 1) := by decide +kernel
theorem d6_agrees_193 : decode b6_agrees 193 = .ok (.ireturn, 1) := by decide +kernel
theorem d6_agrees_194 : decode b6_agrees 194 = .ok (.aload_n 0, 1) := by decide +kernel
theorem d6_agrees_195 : decode b6_agrees 195 = .ok (.getfield 13, 3) := by decide +kernel
theorem d6_agrees_198 : decode b6_agrees 198 = .ok (.iload_n 3, 1) := by decide +kernel
theorem d6_agrees_199 : decode b6_agrees 199 = .ok (.baload, 1) := by decide +kernel
theorem d6_agrees_200 : decode b6_agrees 200 = .ok (.aload_n 0, 1) := by decide +kernel
theorem d6_agrees_201 : decode b6_agrees 201 = .ok (.getfield 13, 3) := by decide +kernel
theorem d6_agrees_204 : decode b6_agrees 204 = .ok (.iload_n 1, 1) := by decide +kernel
theorem d6_agrees_205 : decode b6_agrees 205 = .ok (.baload, 1) := by decide +kernel
theorem d6_agrees_206 : decode b6_agrees 206 = .ok (.if_icmp .ne 35, 3) := by decide +kernel
theorem d6_agrees_209 : decode b6_agrees 209 = .ok (.aload_n 0, 1) := by decide +kernel
theorem d6_agrees_210 : decode b6_agrees 210 = .ok (.getfield 17, 3) := by decide +kernel
theorem d6_agrees_213 : decode b6_agrees 213 = .ok (.iload_n 3, 1) := by decide +kernel
theorem d6_agrees_214 : decode b6_agrees 214 = .ok (.iaload, 1) := by decide +kernel
theorem d6_agrees_215 : decode b6_agrees 215 = .ok (.aload_n 0, 1) := by decide +kernel
theorem d6_agrees_216 : decode b6_agrees 216 = .ok (.getfield 17, 3) := by decide +kernel
theorem d6_agrees_219 : decode b6_agrees 219 = .ok (.iload_n 1, 1) := by decide +kernel
theorem d6_agrees_220 : decode b6_agrees 220 = .ok (.iaload, 1) := by decide +kernel
theorem d6_agrees_221 : decode b6_agrees 221 = .ok (.if_icmp .ge 20, 3) := by decide +kernel
theorem d6_agrees_224 : decode b6_agrees 224 = .ok (.aload_n 0, 1) := by decide +kernel
theorem d6_agrees_225 : decode b6_agrees 225 = .ok (.getfield 20, 3) := by decide +kernel
theorem d6_agrees_228 : decode b6_agrees 228 = .ok (.iload_n 3, 1) := by decide +kernel
theorem d6_agrees_229 : decode b6_agrees 229 = .ok (.iaload, 1) := by decide +kernel
theorem d6_agrees_230 : decode b6_agrees 230 = .ok (.aload_n 0, 1) := by decide +kernel
theorem d6_agrees_231 : decode b6_agrees 231 = .ok (.getfield 20, 3) := by decide +kernel
theorem d6_agrees_234 : decode b6_agrees 234 = .ok (.iload_n 1, 1) := by decide +kernel
theorem d6_agrees_235 : decode b6_agrees 235 = .ok (.iaload, 1) := by decide +kernel
theorem d6_agrees_236 : decode b6_agrees 236 = .ok (.if_icmp .le 5, 3) := by decide +kernel
theorem d6_agrees_239 : decode b6_agrees 239 = .ok (.iconst 0, 1) := by decide +kernel
theorem d6_agrees_240 : decode b6_agrees 240 = .ok (.ireturn, 1) := by decide +kernel
theorem d6_agrees_241 : decode b6_agrees 241 = .ok (.iinc 3 1, 3) := by decide +kernel
theorem d6_agrees_244 : decode b6_agrees 244 = .ok (.goto (-186), 3) := by decide +kernel
theorem d6_agrees_247 : decode b6_agrees 247 = .ok (.aload_n 0, 1) := by decide +kernel
theorem d6_agrees_248 : decode b6_agrees 248 = .ok (.getfield 35, 3) := by decide +kernel
theorem d6_agrees_251 : decode b6_agrees 251 = .ok (.iload_n 2, 1) := by decide +kernel
theorem d6_agrees_252 : decode b6_agrees 252 = .ok (.invokevirtual 55, 3) := by decide +kernel
theorem d6_agrees_255 : decode b6_agrees 255 = .ok (.aload_n 0, 1) := by decide +kernel
theorem d6_agrees_256 : decode b6_agrees 256 = .ok (.getfield 7, 3) := by decide +kernel
theorem d6_agrees_259 : decode b6_agrees 259 = .ok (.iload_n 1, 1) := by decide +kernel
theorem d6_agrees_260 : decode b6_agrees 260 = .ok (.iaload, 1) := by decide +kernel
theorem d6_agrees_261 : decode b6_agrees 261 = .ok (.if_icmp .ne 54, 3) := by decide +kernel
theorem d6_agrees_264 : decode b6_agrees 264 = .ok (.aload_n 0, 1) := by decide +kernel
theorem d6_agrees_265 : decode b6_agrees 265 = .ok (.getfield 35, 3) := by decide +kernel
theorem d6_agrees_268 : decode b6_agrees 268 = .ok (.iload_n 2, 1) := by decide +kernel
theorem d6_agrees_269 : decode b6_agrees 269 = .ok (.invokevirtual 59, 3) := by decide +kernel
theorem d6_agrees_272 : decode b6_agrees 272 = .ok (.aload_n 0, 1) := by decide +kernel
theorem d6_agrees_273 : decode b6_agrees 273 = .ok (.getfield 13, 3) := by decide +kernel
theorem d6_agrees_276 : decode b6_agrees 276 = .ok (.iload_n 1, 1) := by decide +kernel
theorem d6_agrees_277 : decode b6_agrees 277 = .ok (.baload, 1) := by decide +kernel
theorem d6_agrees_278 : decode b6_agrees 278 = .ok (.if_icmp .ne 37, 3) := by decide +kernel
theorem d6_agrees_281 : decode b6_agrees 281 = .ok (.aload_n 0, 1) := by decide +kernel
theorem d6_agrees_282 : decode b6_agrees 282 = .ok (.getfield 35, 3) := by decide +kernel
theorem d6_agrees_285 : decode b6_agrees 285 = .ok (.iload_n 2, 1) := by decide +kernel
theorem d6_agrees_286 : decode b6_agrees 286 = .ok (.invokevirtual 63, 3) := by decide +kernel
theorem d6_agrees_289 : decode b6_agrees 289 = .ok (.aload_n 0, 1) := by decide +kernel
theorem d6_agrees_290 : decode b6_agrees 290 = .ok (.getfield 17, 3) := by decide +kernel
theorem d6_agrees_293 : decode b6_agrees 293 = .ok (.iload_n 1, 1) := by decide +kernel
theorem d6_agrees_294 : decode b6_agrees 294 = .ok (.iaload, 1) := by decide +kernel
theorem d6_agrees_295 : decode b6_agrees 295 = .ok (.if_icmp .ne 20, 3) := by decide +kernel
theorem d6_agrees_298 : decode b6_agrees 298 = .ok (.aload_n 0, 1) := by decide +kernel
theorem d6_agrees_299 : decode b6_agrees 299 = .ok (.getfield 35, 3) := by decide +kernel
theorem d6_agrees_302 : decode b6_agrees 302 = .ok (.iload_n 2, 1) := by decide +kernel
theorem d6_agrees_303 : decode b6_agrees 303 = .ok (.invokevirtual 66, 3) := by decide +kernel
theorem d6_agrees_306 : decode b6_agrees 306 = .ok (.aload_n 0, 1) := by decide +kernel
theorem d6_agrees_307 : decode b6_agrees 307 = .ok (.getfield 20, 3) := by decide +kernel
theorem d6_agrees_310 : decode b6_agrees 310 = .ok (.iload_n 1, 1) := by decide +kernel
theorem d6_agrees_311 : decode b6_agrees 311 = .ok (.iaload, 1) := by decide +kernel
theorem d6_agrees_312 : decode b6_agrees 312 = .ok (.if_icmp .eq 5, 3) := by decide +kernel
theorem d6_agrees_315 : decode b6_agrees 315 = .ok (.iconst 0, 1) := by decide +kernel
theorem d6_agrees_316 : decode b6_agrees 316 = .ok (.ireturn, 1) := by decide +kernel
theorem d6_agrees_317 : decode b6_agrees 317 = .ok (.iinc 1 1, 3) := by decide +kernel
theorem d6_agrees_320 : decode b6_agrees 320 = .ok (.goto (-274), 3) := by decide +kernel
theorem d6_agrees_323 : decode b6_agrees 323 = .ok (.iconst 0, 1) := by decide +kernel
theorem d6_agrees_324 : decode b6_agrees 324 = .ok (.istore_n 1, 1) := by decide +kernel
theorem d6_agrees_325 : decode b6_agrees 325 = .ok (.iload_n 1, 1) := by decide +kernel
theorem d6_agrees_326 : decode b6_agrees 326 = .ok (.aload_n 0, 1) := by decide +kernel
theorem d6_agrees_327 : decode b6_agrees 327 = .ok (.getfield 72, 3) := by decide +kernel
theorem d6_agrees_330 : decode b6_agrees 330 = .ok (.if_icmp .ge 79, 3) := by decide +kernel
theorem d6_agrees_333 : decode b6_agrees 333 = .ok (.aload_n 0, 1) := by decide +kernel
theorem d6_agrees_334 : decode b6_agrees 334 = .ok (.getfield 35, 3) := by decide +kernel
theorem d6_agrees_337 : decode b6_agrees 337 = .ok (.iload_n 1, 1) := by decide +kernel
theorem d6_agrees_338 : decode b6_agrees 338 = .ok (.invokevirtual 75, 3) := by decide +kernel
theorem d6_agrees_341 : decode b6_agrees 341 = .ok (.aload_n 0, 1) := by decide +kernel
theorem d6_agrees_342 : decode b6_agrees 342 = .ok (.getfield 23, 3) := by decide +kernel
theorem d6_agrees_345 : decode b6_agrees 345 = .ok (.iload_n 1, 1) := by decide +kernel
theorem d6_agrees_346 : decode b6_agrees 346 = .ok (.iaload, 1) := by decide +kernel
theorem d6_agrees_347 : decode b6_agrees 347 = .ok (.if_icmp .ne 54, 3) := by decide +kernel
theorem d6_agrees_350 : decode b6_agrees 350 = .ok (.aload_n 0, 1) := by decide +kernel
theorem d6_agrees_351 : decode b6_agrees 351 = .ok (.getfield 35, 3) := by decide +kernel
theorem d6_agrees_354 : decode b6_agrees 354 = .ok (.iload_n 1, 1) := by decide +kernel
theorem d6_agrees_355 : decode b6_agrees 355 = .ok (.invokevirtual 78, 3) := by decide +kernel
theorem d6_agrees_358 : decode b6_agrees 358 = .ok (.aload_n 0, 1) := by decide +kernel
theorem d6_agrees_359 : decode b6_agrees 359 = .ok (.getfield 26, 3) := by decide +kernel
theorem d6_agrees_362 : decode b6_agrees 362 = .ok (.iload_n 1, 1) := by decide +kernel
theorem d6_agrees_363 : decode b6_agrees 363 = .ok (.baload, 1) := by decide +kernel
theorem d6_agrees_364 : decode b6_agrees 364 = .ok (.if_icmp .ne 37, 3) := by decide +kernel
theorem d6_agrees_367 : decode b6_agrees 367 = .ok (.aload_n 0, 1) := by decide +kernel
theorem d6_agrees_368 : decode b6_agrees 368 = .ok (.getfield 35, 3) := by decide +kernel
theorem d6_agrees_371 : decode b6_agrees 371 = .ok (.iload_n 1, 1) := by decide +kernel
theorem d6_agrees_372 : decode b6_agrees 372 = .ok (.invokevirtual 81, 3) := by decide +kernel
theorem d6_agrees_375 : decode b6_agrees 375 = .ok (.aload_n 0, 1) := by decide +kernel
theorem d6_agrees_376 : decode b6_agrees 376 = .ok (.getfield 29, 3) := by decide +kernel
theorem d6_agrees_379 : decode b6_agrees 379 = .ok (.iload_n 1, 1) := by decide +kernel
theorem d6_agrees_380 : decode b6_agrees 380 = .ok (.iaload, 1) := by decide +kernel
theorem d6_agrees_381 : decode b6_agrees 381 = .ok (.if_icmp .ne 20, 3) := by decide +kernel
theorem d6_agrees_384 : decode b6_agrees 384 = .ok (.aload_n 0, 1) := by decide +kernel
theorem d6_agrees_385 : decode b6_agrees 385 = .ok (.getfield 35, 3) := by decide +kernel
theorem d6_agrees_388 : decode b6_agrees 388 = .ok (.iload_n 1, 1) := by decide +kernel
theorem d6_agrees_389 : decode b6_agrees 389 = .ok (.invokevirtual 84, 3) := by decide +kernel
theorem d6_agrees_392 : decode b6_agrees 392 = .ok (.aload_n 0, 1) := by decide +kernel
theorem d6_agrees_393 : decode b6_agrees 393 = .ok (.getfield 32, 3) := by decide +kernel
theorem d6_agrees_396 : decode b6_agrees 396 = .ok (.iload_n 1, 1) := by decide +kernel
theorem d6_agrees_397 : decode b6_agrees 397 = .ok (.iaload, 1) := by decide +kernel
theorem d6_agrees_398 : decode b6_agrees 398 = .ok (.if_icmp .eq 5, 3) := by decide +kernel
theorem d6_agrees_401 : decode b6_agrees 401 = .ok (.iconst 0, 1) := by decide +kernel
theorem d6_agrees_402 : decode b6_agrees 402 = .ok (.ireturn, 1) := by decide +kernel
theorem d6_agrees_403 : decode b6_agrees 403 = .ok (.iinc 1 1, 3) := by decide +kernel
theorem d6_agrees_406 : decode b6_agrees 406 = .ok (.goto (-81), 3) := by decide +kernel
theorem d6_agrees_409 : decode b6_agrees 409 = .ok (.aload_n 0, 1) := by decide +kernel
theorem d6_agrees_410 : decode b6_agrees 410 = .ok (.getfield 35, 3) := by decide +kernel
theorem d6_agrees_413 : decode b6_agrees 413 = .ok (.invokevirtual 111, 3) := by decide +kernel
theorem d6_agrees_416 : decode b6_agrees 416 = .ok (.ifCond .ne 7, 3) := by decide +kernel
theorem d6_agrees_419 : decode b6_agrees 419 = .ok (.iconst 1, 1) := by decide +kernel
theorem d6_agrees_420 : decode b6_agrees 420 = .ok (.goto 4, 3) := by decide +kernel
theorem d6_agrees_423 : decode b6_agrees 423 = .ok (.iconst 0, 1) := by decide +kernel
theorem d6_agrees_424 : decode b6_agrees 424 = .ok (.ireturn, 1) := by decide +kernel
abbrev bL_pick : ByteArray := method_2_code
def yL_pick : MethodName := ⟨"ChannelScheduleLaw", "pick", "([III)I"⟩
theorem wL_pick : YS yL_pick bL_pick 3 (some .int) 3 := ⟨LW_i 805 (by decide +kernel) (by decide +kernel), LW_i 27 (by decide +kernel) (by decide +kernel), LW_i 806 (by decide +kernel) (by decide +kernel), by decide +kernel, by decide +kernel⟩
theorem dL_pick_0 : decode bL_pick 0 = .ok (.iload_n 1, 1) := by decide +kernel
theorem dL_pick_1 : decode bL_pick 1 = .ok (.aload_n 0, 1) := by decide +kernel
theorem dL_pick_2 : decode bL_pick 2 = .ok (.arraylength, 1) := by decide +kernel
theorem dL_pick_3 : decode bL_pick 3 = .ok (.if_icmp .ge 14, 3) := by decide +kernel
theorem dL_pick_6 : decode bL_pick 6 = .ok (.aload_n 0, 1) := by decide +kernel
theorem dL_pick_7 : decode bL_pick 7 = .ok (.iload_n 1, 1) := by decide +kernel
theorem dL_pick_8 : decode bL_pick 8 = .ok (.iaload, 1) := by decide +kernel
theorem dL_pick_9 : decode bL_pick 9 = .ok (.ldc 7, 2) := by decide +kernel
theorem dL_pick_11 : decode bL_pick 11 = .ok (.iand, 1) := by decide +kernel
theorem dL_pick_12 : decode bL_pick 12 = .ok (.iload_n 2, 1) := by decide +kernel
theorem dL_pick_13 : decode bL_pick 13 = .ok (.irem, 1) := by decide +kernel
theorem dL_pick_14 : decode bL_pick 14 = .ok (.goto 4, 3) := by decide +kernel
theorem dL_pick_17 : decode bL_pick 17 = .ok (.iconst 0, 1) := by decide +kernel
theorem dL_pick_18 : decode bL_pick 18 = .ok (.ireturn, 1) := by decide +kernel
abbrev bL_word : ByteArray := method_3_code
def yL_word : MethodName := ⟨"ChannelScheduleLaw", "word", "(Ljava/lang/String;I)I"⟩
theorem wL_word : YS yL_word bL_word 4 (some .int) 2 := ⟨LW_i 817 (by decide +kernel) (by decide +kernel), LW_i 27 (by decide +kernel) (by decide +kernel), LW_i 818 (by decide +kernel) (by decide +kernel), by decide +kernel, by decide +kernel⟩
theorem dL_word_0 : decode bL_word 0 = .ok (.iconst 0, 1) := by decide +kernel
theorem dL_word_1 : decode bL_word 1 = .ok (.istore_n 2, 1) := by decide +kernel
theorem dL_word_2 : decode bL_word 2 = .ok (.iload_n 1, 1) := by decide +kernel
theorem dL_word_3 : decode bL_word 3 = .ok (.istore_n 3, 1) := by decide +kernel
theorem dL_word_4 : decode bL_word 4 = .ok (.iload_n 3, 1) := by decide +kernel
theorem dL_word_5 : decode bL_word 5 = .ok (.iload_n 1, 1) := by decide +kernel
theorem dL_word_6 : decode bL_word 6 = .ok (.iconst 4, 1) := by decide +kernel
theorem dL_word_7 : decode bL_word 7 = .ok (.iadd, 1) := by decide +kernel
theorem dL_word_8 : decode bL_word 8 = .ok (.if_icmp .ge 33, 3) := by decide +kernel
theorem dL_word_11 : decode bL_word 11 = .ok (.iload_n 2, 1) := by decide +kernel
theorem dL_word_12 : decode bL_word 12 = .ok (.bipush 8, 2) := by decide +kernel
theorem dL_word_14 : decode bL_word 14 = .ok (.ishl, 1) := by decide +kernel
theorem dL_word_15 : decode bL_word 15 = .ok (.iload_n 3, 1) := by decide +kernel
theorem dL_word_16 : decode bL_word 16 = .ok (.aload_n 0, 1) := by decide +kernel
theorem dL_word_17 : decode bL_word 17 = .ok (.invokevirtual 8, 3) := by decide +kernel
theorem dL_word_20 : decode bL_word 20 = .ok (.if_icmp .ge 11, 3) := by decide +kernel
theorem dL_word_23 : decode bL_word 23 = .ok (.aload_n 0, 1) := by decide +kernel
theorem dL_word_24 : decode bL_word 24 = .ok (.iload_n 3, 1) := by decide +kernel
theorem dL_word_25 : decode bL_word 25 = .ok (.invokevirtual 14, 3) := by decide +kernel
theorem dL_word_28 : decode bL_word 28 = .ok (.goto 5, 3) := by decide +kernel
theorem dL_word_31 : decode bL_word 31 = .ok (.bipush 32, 2) := by decide +kernel
theorem dL_word_33 : decode bL_word 33 = .ok (.ior, 1) := by decide +kernel
theorem dL_word_34 : decode bL_word 34 = .ok (.istore_n 2, 1) := by decide +kernel
theorem dL_word_35 : decode bL_word 35 = .ok (.iinc 3 1, 3) := by decide +kernel
theorem dL_word_38 : decode bL_word 38 = .ok (.goto (-34), 3) := by decide +kernel
theorem dL_word_41 : decode bL_word 41 = .ok (.iload_n 2, 1) := by decide +kernel
theorem dL_word_42 : decode bL_word 42 = .ok (.ireturn, 1) := by decide +kernel
abbrev bL_say : ByteArray := method_4_code
def yL_say : MethodName := ⟨"ChannelScheduleLaw", "say", "(LChannelSchedule;Ljava/lang/String;)Z"⟩
theorem wL_say : YS yL_say bL_say 3 (some .boolean) 2 := ⟨LW_i 809 (by decide +kernel) (by decide +kernel), LW_i 27 (by decide +kernel) (by decide +kernel), LW_i 810 (by decide +kernel) (by decide +kernel), by decide +kernel, by decide +kernel⟩
theorem dL_say_0 : decode bL_say 0 = .ok (.aload_n 0, 1) := by decide +kernel
theorem dL_say_1 : decode bL_say 1 = .ok (.iconst 0, 1) := by decide +kernel
theorem dL_say_2 : decode bL_say 2 = .ok (.invokevirtual 18, 3) := by decide +kernel
theorem dL_say_5 : decode bL_say 5 = .ok (.pop, 1) := by decide +kernel
theorem dL_say_6 : decode bL_say 6 = .ok (.iconst 0, 1) := by decide +kernel
theorem dL_say_7 : decode bL_say 7 = .ok (.istore_n 2, 1) := by decide +kernel
theorem dL_say_8 : decode bL_say 8 = .ok (.iload_n 2, 1) := by decide +kernel
theorem dL_say_9 : decode bL_say 9 = .ok (.aload_n 1, 1) := by decide +kernel
theorem dL_say_10 : decode bL_say 10 = .ok (.invokevirtual 8, 3) := by decide +kernel
theorem dL_say_13 : decode bL_say 13 = .ok (.if_icmp .ge 50, 3) := by decide +kernel
theorem dL_say_16 : decode bL_say 16 = .ok (.aload_n 0, 1) := by decide +kernel
theorem dL_say_17 : decode bL_say 17 = .ok (.aload_n 1, 1) := by decide +kernel
theorem dL_say_18 : decode bL_say 18 = .ok (.iload_n 2, 1) := by decide +kernel
theorem dL_say_19 : decode bL_say 19 = .ok (.invokestatic 24, 3) := by decide +kernel
theorem dL_say_22 : decode bL_say 22 = .ok (.aload_n 1, 1) := by decide +kernel
theorem dL_say_23 : decode bL_say 23 = .ok (.iload_n 2, 1) := by decide +kernel
theorem dL_say_24 : decode bL_say 24 = .ok (.iconst 4, 1) := by decide +kernel
theorem dL_say_25 : decode bL_say 25 = .ok (.iadd, 1) := by decide +kernel
theorem dL_say_26 : decode bL_say 26 = .ok (.invokestatic 24, 3) := by decide +kernel
theorem dL_say_29 : decode bL_say 29 = .ok (.aload_n 1, 1) := by decide +kernel
theorem dL_say_30 : decode bL_say 30 = .ok (.iload_n 2, 1) := by decide +kernel
theorem dL_say_31 : decode bL_say 31 = .ok (.bipush 8, 2) := by decide +kernel
theorem dL_say_33 : decode bL_say 33 = .ok (.iadd, 1) := by decide +kernel
theorem dL_say_34 : decode bL_say 34 = .ok (.invokestatic 24, 3) := by decide +kernel
theorem dL_say_37 : decode bL_say 37 = .ok (.aload_n 1, 1) := by decide +kernel
theorem dL_say_38 : decode bL_say 38 = .ok (.iload_n 2, 1) := by decide +kernel
theorem dL_say_39 : decode bL_say 39 = .ok (.bipush 12, 2) := by decide +kernel
theorem dL_say_41 : decode bL_say 41 = .ok (.iadd, 1) := by decide +kernel
theorem dL_say_42 : decode bL_say 42 = .ok (.invokestatic 24, 3) := by decide +kernel
theorem dL_say_45 : decode bL_say 45 = .ok (.aload_n 1, 1) := by decide +kernel
theorem dL_say_46 : decode bL_say 46 = .ok (.iload_n 2, 1) := by decide +kernel
theorem dL_say_47 : decode bL_say 47 = .ok (.bipush 16, 2) := by decide +kernel
theorem dL_say_49 : decode bL_say 49 = .ok (.iadd, 1) := by decide +kernel
theorem dL_say_50 : decode bL_say 50 = .ok (.invokestatic 24, 3) := by decide +kernel
theorem dL_say_53 : decode bL_say 53 = .ok (.invokevirtual 30, 3) := by decide +kernel
theorem dL_say_56 : decode bL_say 56 = .ok (.pop, 1) := by decide +kernel
theorem dL_say_57 : decode bL_say 57 = .ok (.iinc 2 20, 3) := by decide +kernel
theorem dL_say_60 : decode bL_say 60 = .ok (.goto (-52), 3) := by decide +kernel
theorem dL_say_63 : decode bL_say 63 = .ok (.aload_n 0, 1) := by decide +kernel
theorem dL_say_64 : decode bL_say 64 = .ok (.aload_n 1, 1) := by decide +kernel
theorem dL_say_65 : decode bL_say 65 = .ok (.invokevirtual 8, 3) := by decide +kernel
theorem dL_say_68 : decode bL_say 68 = .ok (.invokevirtual 18, 3) := by decide +kernel
theorem dL_say_71 : decode bL_say 71 = .ok (.aload_n 1, 1) := by decide +kernel
theorem dL_say_72 : decode bL_say 72 = .ok (.invokevirtual 8, 3) := by decide +kernel
theorem dL_say_75 : decode bL_say 75 = .ok (.if_icmp .ne 7, 3) := by decide +kernel
theorem dL_say_78 : decode bL_say 78 = .ok (.iconst 1, 1) := by decide +kernel
theorem dL_say_79 : decode bL_say 79 = .ok (.goto 4, 3) := by decide +kernel
theorem dL_say_82 : decode bL_say 82 = .ok (.iconst 0, 1) := by decide +kernel
theorem dL_say_83 : decode bL_say 83 = .ok (.ireturn, 1) := by decide +kernel
abbrev bL_setup : ByteArray := method_5_code
def yL_setup : MethodName := ⟨"ChannelScheduleLaw", "setup", "([II)Ljava/lang/String;"⟩
theorem wL_setup : YS yL_setup bL_setup 5 (some (.object "java/lang/String")) 2 := ⟨LW_i 830 (by decide +kernel) (by decide +kernel), LW_i 27 (by decide +kernel) (by decide +kernel), LW_i 831 (by decide +kernel) (by decide +kernel), by decide +kernel, by decide +kernel⟩
theorem dL_setup_0 : decode bL_setup 0 = .ok (.new 34, 3) := by decide +kernel
theorem dL_setup_3 : decode bL_setup 3 = .ok (.dup, 1) := by decide +kernel
theorem dL_setup_4 : decode bL_setup 4 = .ok (.ldc 36, 2) := by decide +kernel
theorem dL_setup_6 : decode bL_setup 6 = .ok (.invokespecial 38, 3) := by decide +kernel
theorem dL_setup_9 : decode bL_setup 9 = .ok (.aload_n 0, 1) := by decide +kernel
theorem dL_setup_10 : decode bL_setup 10 = .ok (.iconst 1, 1) := by decide +kernel
theorem dL_setup_11 : decode bL_setup 11 = .ok (.bipush 8, 2) := by decide +kernel
theorem dL_setup_13 : decode bL_setup 13 = .ok (.invokestatic 41, 3) := by decide +kernel
theorem dL_setup_16 : decode bL_setup 16 = .ok (.invokevirtual 45, 3) := by decide +kernel
theorem dL_setup_19 : decode bL_setup 19 = .ok (.bipush 32, 2) := by decide +kernel
theorem dL_setup_21 : decode bL_setup 21 = .ok (.invokevirtual 48, 3) := by decide +kernel
theorem dL_setup_24 : decode bL_setup 24 = .ok (.aload_n 0, 1) := by decide +kernel
theorem dL_setup_25 : decode bL_setup 25 = .ok (.iconst 2, 1) := by decide +kernel
theorem dL_setup_26 : decode bL_setup 26 = .ok (.bipush 8, 2) := by decide +kernel
theorem dL_setup_28 : decode bL_setup 28 = .ok (.invokestatic 41, 3) := by decide +kernel
theorem dL_setup_31 : decode bL_setup 31 = .ok (.invokevirtual 45, 3) := by decide +kernel
theorem dL_setup_34 : decode bL_setup 34 = .ok (.bipush 32, 2) := by decide +kernel
theorem dL_setup_36 : decode bL_setup 36 = .ok (.invokevirtual 48, 3) := by decide +kernel
theorem dL_setup_39 : decode bL_setup 39 = .ok (.aload_n 0, 1) := by decide +kernel
theorem dL_setup_40 : decode bL_setup 40 = .ok (.iconst 3, 1) := by decide +kernel
theorem dL_setup_41 : decode bL_setup 41 = .ok (.bipush 6, 2) := by decide +kernel
theorem dL_setup_43 : decode bL_setup 43 = .ok (.invokestatic 41, 3) := by decide +kernel
theorem dL_setup_46 : decode bL_setup 46 = .ok (.invokevirtual 45, 3) := by decide +kernel
theorem dL_setup_49 : decode bL_setup 49 = .ok (.bipush 59, 2) := by decide +kernel
theorem dL_setup_51 : decode bL_setup 51 = .ok (.invokevirtual 48, 3) := by decide +kernel
theorem dL_setup_54 : decode bL_setup 54 = .ok (.astore_n 2, 1) := by decide +kernel
theorem dL_setup_55 : decode bL_setup 55 = .ok (.iconst 0, 1) := by decide +kernel
theorem dL_setup_56 : decode bL_setup 56 = .ok (.istore_n 3, 1) := by decide +kernel
theorem dL_setup_57 : decode bL_setup 57 = .ok (.iload_n 3, 1) := by decide +kernel
theorem dL_setup_58 : decode bL_setup 58 = .ok (.iload_n 1, 1) := by decide +kernel
theorem dL_setup_59 : decode bL_setup 59 = .ok (.if_icmp .ge 90, 3) := by decide +kernel
theorem dL_setup_62 : decode bL_setup 62 = .ok (.aload_n 0, 1) := by decide +kernel
theorem dL_setup_63 : decode bL_setup 63 = .ok (.iconst 4, 1) := by decide +kernel
theorem dL_setup_64 : decode bL_setup 64 = .ok (.iload_n 3, 1) := by decide +kernel
theorem dL_setup_65 : decode bL_setup 65 = .ok (.iadd, 1) := by decide +kernel
theorem dL_setup_66 : decode bL_setup 66 = .ok (.ldc 51, 2) := by decide +kernel
theorem dL_setup_68 : decode bL_setup 68 = .ok (.invokestatic 41, 3) := by decide +kernel
theorem dL_setup_71 : decode bL_setup 71 = .ok (.istore 4, 2) := by decide +kernel
theorem dL_setup_73 : decode bL_setup 73 = .ok (.aload_n 2, 1) := by decide +kernel
theorem dL_setup_74 : decode bL_setup 74 = .ok (.ldc 52, 2) := by decide +kernel
theorem dL_setup_76 : decode bL_setup 76 = .ok (.invokevirtual 54, 3) := by decide +kernel
theorem dL_setup_79 : decode bL_setup 79 = .ok (.bipush 97, 2) := by decide +kernel
theorem dL_setup_81 : decode bL_setup 81 = .ok (.iload_n 3, 1) := by decide +kernel
theorem dL_setup_82 : decode bL_setup 82 = .ok (.iadd, 1) := by decide +kernel
theorem dL_setup_83 : decode bL_setup 83 = .ok (.i2c, 1) := by decide +kernel
theorem dL_setup_84 : decode bL_setup 84 = .ok (.invokevirtual 48, 3) := by decide +kernel
theorem dL_setup_87 : decode bL_setup 87 = .ok (.bipush 32, 2) := by decide +kernel
theorem dL_setup_89 : decode bL_setup 89 = .ok (.invokevirtual 48, 3) := by decide +kernel
theorem dL_setup_92 : decode bL_setup 92 = .ok (.iconst 1, 1) := by decide +kernel
theorem dL_setup_93 : decode bL_setup 93 = .ok (.iload 4, 2) := by decide +kernel
theorem dL_setup_95 : decode bL_setup 95 = .ok (.bipush 25, 2) := by decide +kernel
theorem dL_setup_97 : decode bL_setup 97 = .ok (.irem, 1) := by decide +kernel
theorem dL_setup_98 : decode bL_setup 98 = .ok (.iadd, 1) := by decide +kernel
theorem dL_setup_99 : decode bL_setup 99 = .ok (.invokevirtual 45, 3) := by decide +kernel
theorem dL_setup_102 : decode bL_setup 102 = .ok (.bipush 32, 2) := by decide +kernel
theorem dL_setup_104 : decode bL_setup 104 = .ok (.invokevirtual 48, 3) := by decide +kernel
theorem dL_setup_107 : decode bL_setup 107 = .ok (.iload 4, 2) := by decide +kernel
theorem dL_setup_109 : decode bL_setup 109 = .ok (.bipush 32, 2) := by decide +kernel
theorem dL_setup_111 : decode bL_setup 111 = .ok (.idiv, 1) := by decide +kernel
theorem dL_setup_112 : decode bL_setup 112 = .ok (.bipush 6, 2) := by decide +kernel
theorem dL_setup_114 : decode bL_setup 114 = .ok (.irem, 1) := by decide +kernel
theorem dL_setup_115 : decode bL_setup 115 = .ok (.invokevirtual 45, 3) := by decide +kernel
theorem dL_setup_118 : decode bL_setup 118 = .ok (.bipush 32, 2) := by decide +kernel
theorem dL_setup_120 : decode bL_setup 120 = .ok (.invokevirtual 48, 3) := by decide +kernel
theorem dL_setup_123 : decode bL_setup 123 = .ok (.iconst 1, 1) := by decide +kernel
theorem dL_setup_124 : decode bL_setup 124 = .ok (.iload 4, 2) := by decide +kernel
theorem dL_setup_126 : decode bL_setup 126 = .ok (.sipush 256, 3) := by decide +kernel
theorem dL_setup_129 : decode bL_setup 129 = .ok (.idiv, 1) := by decide +kernel
theorem dL_setup_130 : decode bL_setup 130 = .ok (.bipush 12, 2) := by decide +kernel
theorem dL_setup_132 : decode bL_setup 132 = .ok (.irem, 1) := by decide +kernel
theorem dL_setup_133 : decode bL_setup 133 = .ok (.iadd, 1) := by decide +kernel
theorem dL_setup_134 : decode bL_setup 134 = .ok (.invokevirtual 45, 3) := by decide +kernel
theorem dL_setup_137 : decode bL_setup 137 = .ok (.bipush 59, 2) := by decide +kernel
theorem dL_setup_139 : decode bL_setup 139 = .ok (.invokevirtual 48, 3) := by decide +kernel
theorem dL_setup_142 : decode bL_setup 142 = .ok (.pop, 1) := by decide +kernel
theorem dL_setup_143 : decode bL_setup 143 = .ok (.iinc 3 1, 3) := by decide +kernel
theorem dL_setup_146 : decode bL_setup 146 = .ok (.goto (-89), 3) := by decide +kernel
theorem dL_setup_149 : decode bL_setup 149 = .ok (.aload_n 2, 1) := by decide +kernel
theorem dL_setup_150 : decode bL_setup 150 = .ok (.invokevirtual 57, 3) := by decide +kernel
theorem dL_setup_153 : decode bL_setup 153 = .ok (.areturn, 1) := by decide +kernel
abbrev bL_conflict : ByteArray := method_6_code
def yL_conflict : MethodName := ⟨"ChannelScheduleLaw", "conflict", "(LChannelSchedule;ZIIZII)Z"⟩
theorem wL_conflict : YS yL_conflict bL_conflict 10 (some .boolean) 7 := ⟨LW_i 768 (by decide +kernel) (by decide +kernel), LW_i 27 (by decide +kernel) (by decide +kernel), LW_i 769 (by decide +kernel) (by decide +kernel), by decide +kernel, by decide +kernel⟩
theorem dL_conflict_0 : decode bL_conflict 0 = .ok (.iload_n 2, 1) := by decide +kernel
theorem dL_conflict_1 : decode bL_conflict 1 = .ok (.iload 5, 2) := by decide +kernel
theorem dL_conflict_3 : decode bL_conflict 3 = .ok (.if_icmp .ge 7, 3) := by decide +kernel
theorem dL_conflict_6 : decode bL_conflict 6 = .ok (.iconst 1, 1) := by decide +kernel
theorem dL_conflict_7 : decode bL_conflict 7 = .ok (.goto 4, 3) := by decide +kernel
theorem dL_conflict_10 : decode bL_conflict 10 = .ok (.iconst 0, 1) := by decide +kernel
theorem dL_conflict_11 : decode bL_conflict 11 = .ok (.istore 7, 2) := by decide +kernel
theorem dL_conflict_13 : decode bL_conflict 13 = .ok (.iload 7, 2) := by decide +kernel
theorem dL_conflict_15 : decode bL_conflict 15 = .ok (.ifCond .eq 10, 3) := by decide +kernel
theorem dL_conflict_18 : decode bL_conflict 18 = .ok (.iload 5, 2) := by decide +kernel
theorem dL_conflict_20 : decode bL_conflict 20 = .ok (.iload_n 2, 1) := by decide +kernel
theorem dL_conflict_21 : decode bL_conflict 21 = .ok (.isub, 1) := by decide +kernel
theorem dL_conflict_22 : decode bL_conflict 22 = .ok (.goto 7, 3) := by decide +kernel
theorem dL_conflict_25 : decode bL_conflict 25 = .ok (.iload_n 2, 1) := by decide +kernel
theorem dL_conflict_26 : decode bL_conflict 26 = .ok (.iload 5, 2) := by decide +kernel
theorem dL_conflict_28 : decode bL_conflict 28 = .ok (.isub, 1) := by decide +kernel
theorem dL_conflict_29 : decode bL_conflict 29 = .ok (.istore 8, 2) := by decide +kernel
theorem dL_conflict_31 : decode bL_conflict 31 = .ok (.iload 8, 2) := by decide +kernel
theorem dL_conflict_33 : decode bL_conflict 33 = .ok (.ifCond .ne 5, 3) := by decide +kernel
theorem dL_conflict_36 : decode bL_conflict 36 = .ok (.iconst 1, 1) := by decide +kernel
theorem dL_conflict_37 : decode bL_conflict 37 = .ok (.ireturn, 1) := by decide +kernel
theorem dL_conflict_38 : decode bL_conflict 38 = .ok (.iload_n 1, 1) := by decide +kernel
theorem dL_conflict_39 : decode bL_conflict 39 = .ok (.iload 4, 2) := by decide +kernel
theorem dL_conflict_41 : decode bL_conflict 41 = .ok (.if_icmp .ne 45, 3) := by decide +kernel
theorem dL_conflict_44 : decode bL_conflict 44 = .ok (.iload 7, 2) := by decide +kernel
theorem dL_conflict_46 : decode bL_conflict 46 = .ok (.ifCond .eq 10, 3) := by decide +kernel
theorem dL_conflict_49 : decode bL_conflict 49 = .ok (.iload 6, 2) := by decide +kernel
theorem dL_conflict_51 : decode bL_conflict 51 = .ok (.iload_n 3, 1) := by decide +kernel
theorem dL_conflict_52 : decode bL_conflict 52 = .ok (.isub, 1) := by decide +kernel
theorem dL_conflict_53 : decode bL_conflict 53 = .ok (.goto 7, 3) := by decide +kernel
theorem dL_conflict_56 : decode bL_conflict 56 = .ok (.iload_n 3, 1) := by decide +kernel
theorem dL_conflict_57 : decode bL_conflict 57 = .ok (.iload 6, 2) := by decide +kernel
theorem dL_conflict_59 : decode bL_conflict 59 = .ok (.isub, 1) := by decide +kernel
theorem dL_conflict_60 : decode bL_conflict 60 = .ok (.istore 9, 2) := by decide +kernel
theorem dL_conflict_62 : decode bL_conflict 62 = .ok (.iload 8, 2) := by decide +kernel
theorem dL_conflict_64 : decode bL_conflict 64 = .ok (.aload_n 0, 1) := by decide +kernel
theorem dL_conflict_65 : decode bL_conflict 65 = .ok (.invokevirtual 61, 3) := by decide +kernel
theorem dL_conflict_68 : decode bL_conflict 68 = .ok (.if_icmp .lt 12, 3) := by decide +kernel
theorem dL_conflict_71 : decode bL_conflict 71 = .ok (.iload 9, 2) := by decide +kernel
theorem dL_conflict_73 : decode bL_conflict 73 = .ok (.aload_n 0, 1) := by decide +kernel
theorem dL_conflict_74 : decode bL_conflict 74 = .ok (.invokevirtual 61, 3) := by decide +kernel
theorem dL_conflict_77 : decode bL_conflict 77 = .ok (.if_icmp .ge 7, 3) := by decide +kernel
theorem dL_conflict_80 : decode bL_conflict 80 = .ok (.iconst 1, 1) := by decide +kernel
theorem dL_conflict_81 : decode bL_conflict 81 = .ok (.goto 4, 3) := by decide +kernel
theorem dL_conflict_84 : decode bL_conflict 84 = .ok (.iconst 0, 1) := by decide +kernel
theorem dL_conflict_85 : decode bL_conflict 85 = .ok (.ireturn, 1) := by decide +kernel
theorem dL_conflict_86 : decode bL_conflict 86 = .ok (.iload 7, 2) := by decide +kernel
theorem dL_conflict_88 : decode bL_conflict 88 = .ok (.ifCond .eq 10, 3) := by decide +kernel
theorem dL_conflict_91 : decode bL_conflict 91 = .ok (.iload 5, 2) := by decide +kernel
theorem dL_conflict_93 : decode bL_conflict 93 = .ok (.iload_n 3, 1) := by decide +kernel
theorem dL_conflict_94 : decode bL_conflict 94 = .ok (.isub, 1) := by decide +kernel
theorem dL_conflict_95 : decode bL_conflict 95 = .ok (.goto 7, 3) := by decide +kernel
theorem dL_conflict_98 : decode bL_conflict 98 = .ok (.iload_n 2, 1) := by decide +kernel
theorem dL_conflict_99 : decode bL_conflict 99 = .ok (.iload 6, 2) := by decide +kernel
theorem dL_conflict_101 : decode bL_conflict 101 = .ok (.isub, 1) := by decide +kernel
theorem dL_conflict_102 : decode bL_conflict 102 = .ok (.aload_n 0, 1) := by decide +kernel
theorem dL_conflict_103 : decode bL_conflict 103 = .ok (.invokevirtual 64, 3) := by decide +kernel
theorem dL_conflict_106 : decode bL_conflict 106 = .ok (.if_icmp .ge 7, 3) := by decide +kernel
theorem dL_conflict_109 : decode bL_conflict 109 = .ok (.iconst 1, 1) := by decide +kernel
theorem dL_conflict_110 : decode bL_conflict 110 = .ok (.goto 4, 3) := by decide +kernel
theorem dL_conflict_113 : decode bL_conflict 113 = .ok (.iconst 0, 1) := by decide +kernel
theorem dL_conflict_114 : decode bL_conflict 114 = .ok (.ireturn, 1) := by decide +kernel
abbrev bL_act : ByteArray := method_7_code
def yL_act : MethodName := ⟨"ChannelScheduleLaw", "act", "(LChannelSchedule;I)V"⟩
theorem wL_act : YS yL_act bL_act 6 none 2 := ⟨LW_i 1069 (by decide +kernel) (by decide +kernel), LW_i 27 (by decide +kernel) (by decide +kernel), LW_i 1070 (by decide +kernel) (by decide +kernel), by decide +kernel, by decide +kernel⟩
theorem dL_act_0 : decode bL_act 0 = .ok (.iload_n 1, 1) := by decide +kernel
theorem dL_act_1 : decode bL_act 1 = .ok (.bipush 16, 2) := by decide +kernel
theorem dL_act_3 : decode bL_act 3 = .ok (.idiv, 1) := by decide +kernel
theorem dL_act_4 : decode bL_act 4 = .ok (.aload_n 0, 1) := by decide +kernel
theorem dL_act_5 : decode bL_act 5 = .ok (.invokevirtual 67, 3) := by decide +kernel
theorem dL_act_8 : decode bL_act 8 = .ok (.irem, 1) := by decide +kernel
theorem dL_act_9 : decode bL_act 9 = .ok (.istore_n 2, 1) := by decide +kernel
theorem dL_act_10 : decode bL_act 10 = .ok (.iload_n 1, 1) := by decide +kernel
theorem dL_act_11 : decode bL_act 11 = .ok (.sipush 256, 3) := by decide +kernel
theorem dL_act_14 : decode bL_act 14 = .ok (.idiv, 1) := by decide +kernel
theorem dL_act_15 : decode bL_act 15 = .ok (.iconst 2, 1) := by decide +kernel
theorem dL_act_16 : decode bL_act 16 = .ok (.irem, 1) := by decide +kernel
theorem dL_act_17 : decode bL_act 17 = .ok (.ifCond .ne 7, 3) := by decide +kernel
theorem dL_act_20 : decode bL_act 20 = .ok (.iconst 1, 1) := by decide +kernel
theorem dL_act_21 : decode bL_act 21 = .ok (.goto 4, 3) := by decide +kernel
theorem dL_act_24 : decode bL_act 24 = .ok (.iconst 0, 1) := by decide +kernel
theorem dL_act_25 : decode bL_act 25 = .ok (.istore_n 3, 1) := by decide +kernel
theorem dL_act_26 : decode bL_act 26 = .ok (.iload_n 1, 1) := by decide +kernel
theorem dL_act_27 : decode bL_act 27 = .ok (.sipush 512, 3) := by decide +kernel
theorem dL_act_30 : decode bL_act 30 = .ok (.idiv, 1) := by decide +kernel
theorem dL_act_31 : decode bL_act 31 = .ok (.sipush 160, 3) := by decide +kernel
theorem dL_act_34 : decode bL_act 34 = .ok (.irem, 1) := by decide +kernel
theorem dL_act_35 : decode bL_act 35 = .ok (.istore 4, 2) := by decide +kernel
theorem dL_act_37 : decode bL_act 37 = .ok (.iload_n 1, 1) := by decide +kernel
theorem dL_act_38 : decode bL_act 38 = .ok (.bipush 12, 2) := by decide +kernel
theorem dL_act_40 : decode bL_act 40 = .ok (.irem, 1) := by decide +kernel
theorem dL_act_41 : decode bL_act 41 = .ok (.tableswitch 181 0 6 #[43, 43, 43, 84, 125, 149, 164], 43) := by decide +kernel
theorem dL_act_84 : decode bL_act 84 = .ok (.iload 4, 2) := by decide +kernel
theorem dL_act_86 : decode bL_act 86 = .ok (.aload_n 0, 1) := by decide +kernel
theorem dL_act_87 : decode bL_act 87 = .ok (.invokevirtual 70, 3) := by decide +kernel
theorem dL_act_90 : decode bL_act 90 = .ok (.if_icmp .lt 160, 3) := by decide +kernel
theorem dL_act_93 : decode bL_act 93 = .ok (.aload_n 0, 1) := by decide +kernel
theorem dL_act_94 : decode bL_act 94 = .ok (.invokevirtual 73, 3) := by decide +kernel
theorem dL_act_97 : decode bL_act 97 = .ok (.bipush 20, 2) := by decide +kernel
theorem dL_act_99 : decode bL_act 99 = .ok (.if_icmp .ge 151, 3) := by decide +kernel
theorem dL_act_102 : decode bL_act 102 = .ok (.aload_n 0, 1) := by decide +kernel
theorem dL_act_103 : decode bL_act 103 = .ok (.iload_n 2, 1) := by decide +kernel
theorem dL_act_104 : decode bL_act 104 = .ok (.iload_n 3, 1) := by decide +kernel
theorem dL_act_105 : decode bL_act 105 = .ok (.iload 4, 2) := by decide +kernel
theorem dL_act_107 : decode bL_act 107 = .ok (.invokevirtual 76, 3) := by decide +kernel
theorem dL_act_110 : decode bL_act 110 = .ok (.ifCond .ne 140, 3) := by decide +kernel
theorem dL_act_113 : decode bL_act 113 = .ok (.aload_n 0, 1) := by decide +kernel
theorem dL_act_114 : decode bL_act 114 = .ok (.iload_n 2, 1) := by decide +kernel
theorem dL_act_115 : decode bL_act 115 = .ok (.iload_n 3, 1) := by decide +kernel
theorem dL_act_116 : decode bL_act 116 = .ok (.iload 4, 2) := by decide +kernel
theorem dL_act_118 : decode bL_act 118 = .ok (.invokevirtual 80, 3) := by decide +kernel
theorem dL_act_121 : decode bL_act 121 = .ok (.pop, 1) := by decide +kernel
theorem dL_act_122 : decode bL_act 122 = .ok (.goto 128, 3) := by decide +kernel
theorem dL_act_125 : decode bL_act 125 = .ok (.aload_n 0, 1) := by decide +kernel
theorem dL_act_126 : decode bL_act 126 = .ok (.invokevirtual 73, 3) := by decide +kernel
theorem dL_act_129 : decode bL_act 129 = .ok (.ifCond .le 121, 3) := by decide +kernel
theorem dL_act_132 : decode bL_act 132 = .ok (.iload_n 1, 1) := by decide +kernel
theorem dL_act_133 : decode bL_act 133 = .ok (.ldc 83, 2) := by decide +kernel
theorem dL_act_135 : decode bL_act 135 = .ok (.idiv, 1) := by decide +kernel
theorem dL_act_136 : decode bL_act 136 = .ok (.aload_n 0, 1) := by decide +kernel
theorem dL_act_137 : decode bL_act 137 = .ok (.invokevirtual 73, 3) := by decide +kernel
theorem dL_act_140 : decode bL_act 140 = .ok (.irem, 1) := by decide +kernel
theorem dL_act_141 : decode bL_act 141 = .ok (.istore 5, 2) := by decide +kernel
theorem dL_act_143 : decode bL_act 143 = .ok (.aload_n 0, 1) := by decide +kernel
theorem dL_act_144 : decode bL_act 144 = .ok (.iload 5, 2) := by decide +kernel
theorem dL_act_146 : decode bL_act 146 = .ok (.invokevirtual 84, 3) := by decide +kernel
theorem dL_act_149 : decode bL_act 149 = .ok (.aload_n 0, 1) := by decide +kernel
theorem dL_act_150 : decode bL_act 150 = .ok (.invokevirtual 70, 3) := by decide +kernel
theorem dL_act_153 : decode bL_act 153 = .ok (.if_icmp .le 10, 3) := by decide +kernel
theorem dL_act_156 : decode bL_act 156 = .ok (.aload_n 0, 1) := by decide +kernel
theorem dL_act_157 : decode bL_act 157 = .ok (.iload 5, 2) := by decide +kernel
theorem dL_act_159 : decode bL_act 159 = .ok (.invokevirtual 87, 3) := by decide +kernel
theorem dL_act_162 : decode bL_act 162 = .ok (.pop, 1) := by decide +kernel
theorem dL_act_163 : decode bL_act 163 = .ok (.goto 87, 3) := by decide +kernel
theorem dL_act_166 : decode bL_act 166 = .ok (.aload_n 0, 1) := by decide +kernel
theorem dL_act_167 : decode bL_act 167 = .ok (.invokevirtual 90, 3) := by decide +kernel
theorem dL_act_170 : decode bL_act 170 = .ok (.ifCond .le 80, 3) := by decide +kernel
theorem dL_act_173 : decode bL_act 173 = .ok (.aload_n 0, 1) := by decide +kernel
theorem dL_act_174 : decode bL_act 174 = .ok (.iload_n 1, 1) := by decide +kernel
theorem dL_act_175 : decode bL_act 175 = .ok (.ldc 83, 2) := by decide +kernel
theorem dL_act_177 : decode bL_act 177 = .ok (.idiv, 1) := by decide +kernel
theorem dL_act_178 : decode bL_act 178 = .ok (.aload_n 0, 1) := by decide +kernel
theorem dL_act_179 : decode bL_act 179 = .ok (.invokevirtual 90, 3) := by decide +kernel
theorem dL_act_182 : decode bL_act 182 = .ok (.irem, 1) := by decide +kernel
theorem dL_act_183 : decode bL_act 183 = .ok (.invokevirtual 93, 3) := by decide +kernel
theorem dL_act_186 : decode bL_act 186 = .ok (.pop, 1) := by decide +kernel
theorem dL_act_187 : decode bL_act 187 = .ok (.goto 63, 3) := by decide +kernel
theorem dL_act_190 : decode bL_act 190 = .ok (.aload_n 0, 1) := by decide +kernel
theorem dL_act_191 : decode bL_act 191 = .ok (.iload_n 1, 1) := by decide +kernel
theorem dL_act_192 : decode bL_act 192 = .ok (.ldc 83, 2) := by decide +kernel
theorem dL_act_194 : decode bL_act 194 = .ok (.idiv, 1) := by decide +kernel
theorem dL_act_195 : decode bL_act 195 = .ok (.bipush 10, 2) := by decide +kernel
theorem dL_act_197 : decode bL_act 197 = .ok (.irem, 1) := by decide +kernel
theorem dL_act_198 : decode bL_act 198 = .ok (.invokevirtual 96, 3) := by decide +kernel
theorem dL_act_201 : decode bL_act 201 = .ok (.pop, 1) := by decide +kernel
theorem dL_act_202 : decode bL_act 202 = .ok (.goto 48, 3) := by decide +kernel
theorem dL_act_205 : decode bL_act 205 = .ok (.aload_n 0, 1) := by decide +kernel
theorem dL_act_206 : decode bL_act 206 = .ok (.iconst 1, 1) := by decide +kernel
theorem dL_act_207 : decode bL_act 207 = .ok (.iload_n 1, 1) := by decide +kernel
theorem dL_act_208 : decode bL_act 208 = .ok (.ldc 83, 2) := by decide +kernel
theorem dL_act_210 : decode bL_act 210 = .ok (.idiv, 1) := by decide +kernel
theorem dL_act_211 : decode bL_act 211 = .ok (.bipush 12, 2) := by decide +kernel
theorem dL_act_213 : decode bL_act 213 = .ok (.irem, 1) := by decide +kernel
theorem dL_act_214 : decode bL_act 214 = .ok (.iadd, 1) := by decide +kernel
theorem dL_act_215 : decode bL_act 215 = .ok (.invokevirtual 99, 3) := by decide +kernel
theorem dL_act_218 : decode bL_act 218 = .ok (.pop, 1) := by decide +kernel
theorem dL_act_219 : decode bL_act 219 = .ok (.goto 31, 3) := by decide +kernel
theorem dL_act_222 : decode bL_act 222 = .ok (.aload_n 0, 1) := by decide +kernel
theorem dL_act_223 : decode bL_act 223 = .ok (.invokevirtual 90, 3) := by decide +kernel
theorem dL_act_226 : decode bL_act 226 = .ok (.bipush 8, 2) := by decide +kernel
theorem dL_act_228 : decode bL_act 228 = .ok (.if_icmp .ge 22, 3) := by decide +kernel
theorem dL_act_231 : decode bL_act 231 = .ok (.aload_n 0, 1) := by decide +kernel
theorem dL_act_232 : decode bL_act 232 = .ok (.iload_n 2, 1) := by decide +kernel
theorem dL_act_233 : decode bL_act 233 = .ok (.iload_n 3, 1) := by decide +kernel
theorem dL_act_234 : decode bL_act 234 = .ok (.iload 4, 2) := by decide +kernel
theorem dL_act_236 : decode bL_act 236 = .ok (.iload 4, 2) := by decide +kernel
theorem dL_act_238 : decode bL_act 238 = .ok (.iload_n 1, 1) := by decide +kernel
theorem dL_act_239 : decode bL_act 239 = .ok (.ldc 83, 2) := by decide +kernel
theorem dL_act_241 : decode bL_act 241 = .ok (.idiv, 1) := by decide +kernel
theorem dL_act_242 : decode bL_act 242 = .ok (.bipush 25, 2) := by decide +kernel
theorem dL_act_244 : decode bL_act 244 = .ok (.irem, 1) := by decide +kernel
theorem dL_act_245 : decode bL_act 245 = .ok (.iadd, 1) := by decide +kernel
theorem dL_act_246 : decode bL_act 246 = .ok (.invokevirtual 102, 3) := by decide +kernel
theorem dL_act_249 : decode bL_act 249 = .ok (.pop, 1) := by decide +kernel
theorem dL_act_250 : decode bL_act 250 = .ok (.return_, 1) := by decide +kernel
theorem lL_8 : .methodLink "ChannelScheduleLaw" 8 ⟨"java/lang/String", "length", "()I"⟩ ∈ LW := LW_i 815 (by decide +kernel) (by decide +kernel)
theorem lL_14 : .methodLink "ChannelScheduleLaw" 14 ⟨"java/lang/String", "charAt", "(I)C"⟩ ∈ LW := LW_i 819 (by decide +kernel) (by decide +kernel)
theorem lL_18 : .methodLink "ChannelScheduleLaw" 18 y5_truncate ∈ LW := LW_i 811 (by decide +kernel) (by decide +kernel)
theorem lL_24 : .methodLink "ChannelScheduleLaw" 24 yL_word ∈ LW := LW_i 816 (by decide +kernel) (by decide +kernel)
theorem lL_30 : .methodLink "ChannelScheduleLaw" 30 y5_append ∈ LW := LW_i 820 (by decide +kernel) (by decide +kernel)
theorem lL_38 : .methodLink "ChannelScheduleLaw" 38 ⟨"java/lang/StringBuilder", "<init>", "(Ljava/lang/String;)V"⟩ ∈ LW := LW_i 835 (by decide +kernel) (by decide +kernel)
theorem lL_41 : .methodLink "ChannelScheduleLaw" 41 yL_pick ∈ LW := LW_i 804 (by decide +kernel) (by decide +kernel)
theorem lL_45 : .methodLink "ChannelScheduleLaw" 45 ⟨"java/lang/StringBuilder", "append", "(I)Ljava/lang/StringBuilder;"⟩ ∈ LW := LW_i 970 (by decide +kernel) (by decide +kernel)
theorem lL_48 : .methodLink "ChannelScheduleLaw" 48 ⟨"java/lang/StringBuilder", "append", "(C)Ljava/lang/StringBuilder;"⟩ ∈ LW := LW_i 995 (by decide +kernel) (by decide +kernel)
theorem lL_54 : .methodLink "ChannelScheduleLaw" 54 ⟨"java/lang/StringBuilder", "append", "(Ljava/lang/String;)Ljava/lang/StringBuilder;"⟩ ∈ LW := LW_i 1010 (by decide +kernel) (by decide +kernel)
theorem lL_57 : .methodLink "ChannelScheduleLaw" 57 ⟨"java/lang/StringBuilder", "toString", "()Ljava/lang/String;"⟩ ∈ LW := LW_i 1011 (by decide +kernel) (by decide +kernel)
theorem lL_61 : .methodLink "ChannelScheduleLaw" 61 y5_headway ∈ LW := LW_i 770 (by decide +kernel) (by decide +kernel)
theorem lL_64 : .methodLink "ChannelScheduleLaw" 64 y5_clearance ∈ LW := LW_i 774 (by decide +kernel) (by decide +kernel)
theorem lL_67 : .methodLink "ChannelScheduleLaw" 67 y5_shipCount ∈ LW := LW_i 1071 (by decide +kernel) (by decide +kernel)
theorem lL_70 : .methodLink "ChannelScheduleLaw" 70 y5_minute ∈ LW := LW_i 491 (by decide +kernel) (by decide +kernel)
theorem lL_73 : .methodLink "ChannelScheduleLaw" 73 y5_bookingCount ∈ LW := LW_i 528 (by decide +kernel) (by decide +kernel)
theorem lL_76 : .methodLink "ChannelScheduleLaw" 76 y5_conflictCount ∈ LW := LW_i 540 (by decide +kernel) (by decide +kernel)
theorem lL_80 : .methodLink "ChannelScheduleLaw" 80 y5_book ∈ LW := LW_i 563 (by decide +kernel) (by decide +kernel)
theorem lL_84 : .methodLink "ChannelScheduleLaw" 84 y5_startMinute ∈ LW := LW_i 532 (by decide +kernel) (by decide +kernel)
theorem lL_87 : .methodLink "ChannelScheduleLaw" 87 y5_cancel ∈ LW := LW_i 644 (by decide +kernel) (by decide +kernel)
theorem lL_90 : .methodLink "ChannelScheduleLaw" 90 y5_requestCount ∈ LW := LW_i 1076 (by decide +kernel) (by decide +kernel)
theorem lL_93 : .methodLink "ChannelScheduleLaw" 93 y5_withdraw ∈ LW := LW_i 1077 (by decide +kernel) (by decide +kernel)
theorem lL_96 : .methodLink "ChannelScheduleLaw" 96 y5_setThickness ∈ LW := LW_i 1081 (by decide +kernel) (by decide +kernel)
theorem lL_99 : .methodLink "ChannelScheduleLaw" 99 y5_advance ∈ LW := LW_i 1089 (by decide +kernel) (by decide +kernel)
theorem lL_102 : .methodLink "ChannelScheduleLaw" 102 y5_request ∈ LW := LW_i 620 (by decide +kernel) (by decide +kernel)
theorem lL_106 : .methodLink "ChannelScheduleLaw" 106 y5_init ∈ LW := LW_i 55 (by decide +kernel) (by decide +kernel)
theorem lL_107 : .methodLink "ChannelScheduleLaw" 107 yL_setup ∈ LW := LW_i 829 (by decide +kernel) (by decide +kernel)
theorem lL_111 : .methodLink "ChannelScheduleLaw" 111 yL_say ∈ LW := LW_i 808 (by decide +kernel) (by decide +kernel)
theorem lL_115 : .methodLink "ChannelScheduleLaw" 115 y5_load ∈ LW := LW_i 421 (by decide +kernel) (by decide +kernel)
theorem lL_120 : .methodLink "ChannelScheduleLaw" 120 y6_init ∈ LW := LW_i 670 (by decide +kernel) (by decide +kernel)
theorem lL_124 : .methodLink "ChannelScheduleLaw" 124 y6_read ∈ LW := LW_i 717 (by decide +kernel) (by decide +kernel)
theorem lL_127 : .methodLink "ChannelScheduleLaw" 127 y6_agrees ∈ LW := LW_i 799 (by decide +kernel) (by decide +kernel)
theorem lL_136 : .methodLink "ChannelScheduleLaw" 136 y6_find ∈ LW := LW_i 778 (by decide +kernel) (by decide +kernel)
theorem lL_139 : .methodLink "ChannelScheduleLaw" 139 y6_add ∈ LW := LW_i 785 (by decide +kernel) (by decide +kernel)
theorem lL_161 : .methodLink "ChannelScheduleLaw" 161 y6_remove ∈ LW := LW_i 795 (by decide +kernel) (by decide +kernel)
theorem lL_165 : .methodLink "ChannelScheduleLaw" 165 y6_process ∈ LW := LW_i 789 (by decide +kernel) (by decide +kernel)
theorem lL_168 : .methodLink "ChannelScheduleLaw" 168 y5_transitTime ∈ LW := LW_i 495 (by decide +kernel) (by decide +kernel)
theorem lL_171 : .methodLink "ChannelScheduleLaw" 171 y6_isFree ∈ LW := LW_i 763 (by decide +kernel) (by decide +kernel)
theorem lL_175 : .methodLink "ChannelScheduleLaw" 175 yL_act ∈ LW := LW_i 1068 (by decide +kernel) (by decide +kernel)
theorem lL_179 : .methodLink "ChannelScheduleLaw" 179 y5_inconsistencies ∈ LW := LW_i 559 (by decide +kernel) (by decide +kernel)
theorem l6_1 : .methodLink "ChannelScheduleLaw$Own" 1 ⟨"java/lang/Object", "<init>", "()V"⟩ ∈ LW := LW_i 673 (by decide +kernel) (by decide +kernel)
theorem l6_39 : .methodLink "ChannelScheduleLaw$Own" 39 y5_bookingCount ∈ LW := LW_i 721 (by decide +kernel) (by decide +kernel)
theorem l6_49 : .methodLink "ChannelScheduleLaw$Own" 49 y5_requestsServed ∈ LW := LW_i 722 (by decide +kernel) (by decide +kernel)
theorem l6_55 : .methodLink "ChannelScheduleLaw$Own" 55 y5_bookedShip ∈ LW := LW_i 726 (by decide +kernel) (by decide +kernel)
theorem l6_59 : .methodLink "ChannelScheduleLaw$Own" 59 y5_isInbound ∈ LW := LW_i 730 (by decide +kernel) (by decide +kernel)
theorem l6_63 : .methodLink "ChannelScheduleLaw$Own" 63 y5_startMinute ∈ LW := LW_i 734 (by decide +kernel) (by decide +kernel)
theorem l6_66 : .methodLink "ChannelScheduleLaw$Own" 66 y5_endMinute ∈ LW := LW_i 735 (by decide +kernel) (by decide +kernel)
theorem l6_69 : .methodLink "ChannelScheduleLaw$Own" 69 y5_requestCount ∈ LW := LW_i 739 (by decide +kernel) (by decide +kernel)
theorem l6_75 : .methodLink "ChannelScheduleLaw$Own" 75 y5_requestedShip ∈ LW := LW_i 743 (by decide +kernel) (by decide +kernel)
theorem l6_78 : .methodLink "ChannelScheduleLaw$Own" 78 y5_isRequestInbound ∈ LW := LW_i 751 (by decide +kernel) (by decide +kernel)
theorem l6_81 : .methodLink "ChannelScheduleLaw$Own" 81 y5_earliestRequested ∈ LW := LW_i 755 (by decide +kernel) (by decide +kernel)
theorem l6_84 : .methodLink "ChannelScheduleLaw$Own" 84 y5_latestRequested ∈ LW := LW_i 759 (by decide +kernel) (by decide +kernel)
theorem l6_93 : .methodLink "ChannelScheduleLaw$Own" 93 y5_minute ∈ LW := LW_i 782 (by decide +kernel) (by decide +kernel)
theorem l6_96 : .methodLink "ChannelScheduleLaw$Own" 96 y5_transitTime ∈ LW := LW_i 783 (by decide +kernel) (by decide +kernel)
theorem l6_99 : .methodLink "ChannelScheduleLaw$Own" 99 y6_isFree ∈ LW := LW_i 784 (by decide +kernel) (by decide +kernel)
theorem l6_103 : .methodLink "ChannelScheduleLaw$Own" 103 y6_find ∈ LW := LW_i 793 (by decide +kernel) (by decide +kernel)
theorem l6_107 : .methodLink "ChannelScheduleLaw$Own" 107 y6_add ∈ LW := LW_i 794 (by decide +kernel) (by decide +kernel)
theorem l6_111 : .methodLink "ChannelScheduleLaw$Own" 111 y5_inconsistencies ∈ LW := LW_i 803 (by decide +kernel) (by decide +kernel)
theorem fL_132 : .fieldLink "ChannelScheduleLaw" 132 "ChannelScheduleLaw$Own" "waiting" "I" ∈ LW := LW_i 690 (by decide +kernel) (by decide +kernel)
theorem fL_143 : .fieldLink "ChannelScheduleLaw" 143 "ChannelScheduleLaw$Own" "wantedShip" "[I" ∈ LW := LW_i 682 (by decide +kernel) (by decide +kernel)
theorem fL_147 : .fieldLink "ChannelScheduleLaw" 147 "ChannelScheduleLaw$Own" "wantedIn" "[Z" ∈ LW := LW_i 684 (by decide +kernel) (by decide +kernel)
theorem fL_151 : .fieldLink "ChannelScheduleLaw" 151 "ChannelScheduleLaw$Own" "first" "[I" ∈ LW := LW_i 686 (by decide +kernel) (by decide +kernel)
theorem fL_154 : .fieldLink "ChannelScheduleLaw" 154 "ChannelScheduleLaw$Own" "last" "[I" ∈ LW := LW_i 688 (by decide +kernel) (by decide +kernel)
theorem fL_157 : .fieldLink "ChannelScheduleLaw" 157 "ChannelScheduleLaw$Own" "many" "I" ∈ LW := LW_i 680 (by decide +kernel) (by decide +kernel)
theorem f6_7 : .fieldLink "ChannelScheduleLaw$Own" 7 "ChannelScheduleLaw$Own" "ship" "[I" ∈ LW := LW_i 675 (by decide +kernel) (by decide +kernel)
theorem f6_13 : .fieldLink "ChannelScheduleLaw$Own" 13 "ChannelScheduleLaw$Own" "in" "[Z" ∈ LW := LW_i 676 (by decide +kernel) (by decide +kernel)
theorem f6_17 : .fieldLink "ChannelScheduleLaw$Own" 17 "ChannelScheduleLaw$Own" "start" "[I" ∈ LW := LW_i 677 (by decide +kernel) (by decide +kernel)
theorem f6_20 : .fieldLink "ChannelScheduleLaw$Own" 20 "ChannelScheduleLaw$Own" "end" "[I" ∈ LW := LW_i 678 (by decide +kernel) (by decide +kernel)
theorem f6_23 : .fieldLink "ChannelScheduleLaw$Own" 23 "ChannelScheduleLaw$Own" "wantedShip" "[I" ∈ LW := LW_i 681 (by decide +kernel) (by decide +kernel)
theorem f6_26 : .fieldLink "ChannelScheduleLaw$Own" 26 "ChannelScheduleLaw$Own" "wantedIn" "[Z" ∈ LW := LW_i 683 (by decide +kernel) (by decide +kernel)
theorem f6_29 : .fieldLink "ChannelScheduleLaw$Own" 29 "ChannelScheduleLaw$Own" "first" "[I" ∈ LW := LW_i 685 (by decide +kernel) (by decide +kernel)
theorem f6_32 : .fieldLink "ChannelScheduleLaw$Own" 32 "ChannelScheduleLaw$Own" "last" "[I" ∈ LW := LW_i 687 (by decide +kernel) (by decide +kernel)
theorem f6_35 : .fieldLink "ChannelScheduleLaw$Own" 35 "ChannelScheduleLaw$Own" "x" "LChannelSchedule;" ∈ LW := LW_i 674 (by decide +kernel) (by decide +kernel)
theorem f6_45 : .fieldLink "ChannelScheduleLaw$Own" 45 "ChannelScheduleLaw$Own" "many" "I" ∈ LW := LW_i 679 (by decide +kernel) (by decide +kernel)
theorem f6_52 : .fieldLink "ChannelScheduleLaw$Own" 52 "ChannelScheduleLaw$Own" "served" "I" ∈ LW := LW_i 691 (by decide +kernel) (by decide +kernel)
theorem f6_72 : .fieldLink "ChannelScheduleLaw$Own" 72 "ChannelScheduleLaw$Own" "waiting" "I" ∈ LW := LW_i 689 (by decide +kernel) (by decide +kernel)
theorem kkL_7 : .constant "ChannelScheduleLaw" 7 2147483647 ∈ LW := LW_i 807 (by decide +kernel) (by decide +kernel)
theorem kkL_51 : .constant "ChannelScheduleLaw" 51 16777216 ∈ LW := LW_i 1008 (by decide +kernel) (by decide +kernel)
theorem kkL_83 : .constant "ChannelScheduleLaw" 83 131072 ∈ LW := LW_i 1075 (by decide +kernel) (by decide +kernel)
theorem kkL_123 : .constant "ChannelScheduleLaw" 123 268435456 ∈ LW := LW_i 1101 (by decide +kernel) (by decide +kernel)
theorem kkL_131 : .constant "ChannelScheduleLaw" 131 32768 ∈ LW := LW_i 1102 (by decide +kernel) (by decide +kernel)
theorem kkL_160 : .constant "ChannelScheduleLaw" 160 1048576 ∈ LW := LW_i 1103 (by decide +kernel) (by decide +kernel)
