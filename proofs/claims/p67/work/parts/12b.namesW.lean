/-! decode rows of the law's entry, 1 -/
theorem dL_law_0 : decode code 0 = .ok (.new 19, 3) := by decide +kernel
theorem dL_law_3 : decode code 3 = .ok (.dup, 1) := by decide +kernel
theorem dL_law_4 : decode code 4 = .ok (.invokespecial 106, 3) := by decide +kernel
theorem dL_law_7 : decode code 7 = .ok (.astore_n 1, 1) := by decide +kernel
theorem dL_law_8 : decode code 8 = .ok (.iconst 1, 1) := by decide +kernel
theorem dL_law_9 : decode code 9 = .ok (.aload_n 0, 1) := by decide +kernel
theorem dL_law_10 : decode code 10 = .ok (.iconst 0, 1) := by decide +kernel
theorem dL_law_11 : decode code 11 = .ok (.bipush 6, 2) := by decide +kernel
theorem dL_law_13 : decode code 13 = .ok (.invokestatic 41, 3) := by decide +kernel
theorem dL_law_16 : decode code 16 = .ok (.iadd, 1) := by decide +kernel
theorem dL_law_17 : decode code 17 = .ok (.istore_n 2, 1) := by decide +kernel
theorem dL_law_18 : decode code 18 = .ok (.aload_n 1, 1) := by decide +kernel
theorem dL_law_19 : decode code 19 = .ok (.aload_n 0, 1) := by decide +kernel
theorem dL_law_20 : decode code 20 = .ok (.iload_n 2, 1) := by decide +kernel
theorem dL_law_21 : decode code 21 = .ok (.invokestatic 107, 3) := by decide +kernel
theorem dL_law_24 : decode code 24 = .ok (.invokestatic 111, 3) := by decide +kernel
theorem dL_law_27 : decode code 27 = .ok (.ifCond .eq 11, 3) := by decide +kernel
theorem dL_law_30 : decode code 30 = .ok (.aload_n 1, 1) := by decide +kernel
theorem dL_law_31 : decode code 31 = .ok (.invokevirtual 115, 3) := by decide +kernel
theorem dL_law_34 : decode code 34 = .ok (.iload_n 2, 1) := by decide +kernel
theorem dL_law_35 : decode code 35 = .ok (.if_icmp .eq 5, 3) := by decide +kernel
theorem dL_law_38 : decode code 38 = .ok (.iconst 0, 1) := by decide +kernel
theorem dL_law_39 : decode code 39 = .ok (.ireturn, 1) := by decide +kernel
theorem dL_law_40 : decode code 40 = .ok (.new 118, 3) := by decide +kernel
theorem dL_law_43 : decode code 43 = .ok (.dup, 1) := by decide +kernel
theorem dL_law_44 : decode code 44 = .ok (.aload_n 1, 1) := by decide +kernel
theorem dL_law_45 : decode code 45 = .ok (.invokespecial 120, 3) := by decide +kernel
theorem dL_law_48 : decode code 48 = .ok (.astore_n 3, 1) := by decide +kernel
theorem dL_law_49 : decode code 49 = .ok (.iconst 0, 1) := by decide +kernel
theorem dL_law_50 : decode code 50 = .ok (.istore 4, 2) := by decide +kernel
theorem dL_law_52 : decode code 52 = .ok (.iload 4, 2) := by decide +kernel
theorem dL_law_54 : decode code 54 = .ok (.bipush 26, 2) := by decide +kernel
theorem dL_law_56 : decode code 56 = .ok (.if_icmp .ge 444, 3) := by decide +kernel
theorem dL_law_59 : decode code 59 = .ok (.aload_n 0, 1) := by decide +kernel
theorem dL_law_60 : decode code 60 = .ok (.bipush 10, 2) := by decide +kernel
theorem dL_law_62 : decode code 62 = .ok (.iload 4, 2) := by decide +kernel
theorem dL_law_64 : decode code 64 = .ok (.iadd, 1) := by decide +kernel
theorem dL_law_65 : decode code 65 = .ok (.ldc 123, 2) := by decide +kernel
theorem dL_law_67 : decode code 67 = .ok (.invokestatic 41, 3) := by decide +kernel
theorem dL_law_70 : decode code 70 = .ok (.istore 5, 2) := by decide +kernel
theorem dL_law_72 : decode code 72 = .ok (.aload_n 3, 1) := by decide +kernel
theorem dL_law_73 : decode code 73 = .ok (.invokevirtual 124, 3) := by decide +kernel
theorem dL_law_76 : decode code 76 = .ok (.aload_n 3, 1) := by decide +kernel
theorem dL_law_77 : decode code 77 = .ok (.invokevirtual 127, 3) := by decide +kernel
theorem dL_law_80 : decode code 80 = .ok (.ifCond .ne 5, 3) := by decide +kernel
theorem dL_law_83 : decode code 83 = .ok (.iconst 0, 1) := by decide +kernel
theorem dL_law_84 : decode code 84 = .ok (.ireturn, 1) := by decide +kernel
theorem dL_law_85 : decode code 85 = .ok (.iload 5, 2) := by decide +kernel
theorem dL_law_87 : decode code 87 = .ok (.bipush 8, 2) := by decide +kernel
theorem dL_law_89 : decode code 89 = .ok (.idiv, 1) := by decide +kernel
theorem dL_law_90 : decode code 90 = .ok (.iload_n 2, 1) := by decide +kernel
theorem dL_law_91 : decode code 91 = .ok (.irem, 1) := by decide +kernel
theorem dL_law_92 : decode code 92 = .ok (.istore 6, 2) := by decide +kernel
theorem dL_law_94 : decode code 94 = .ok (.iload 5, 2) := by decide +kernel
theorem dL_law_96 : decode code 96 = .ok (.bipush 64, 2) := by decide +kernel
theorem dL_law_98 : decode code 98 = .ok (.idiv, 1) := by decide +kernel
theorem dL_law_99 : decode code 99 = .ok (.iconst 2, 1) := by decide +kernel
theorem dL_law_100 : decode code 100 = .ok (.irem, 1) := by decide +kernel
theorem dL_law_101 : decode code 101 = .ok (.ifCond .ne 7, 3) := by decide +kernel
theorem dL_law_104 : decode code 104 = .ok (.iconst 1, 1) := by decide +kernel
theorem dL_law_105 : decode code 105 = .ok (.goto 4, 3) := by decide +kernel
theorem dL_law_108 : decode code 108 = .ok (.iconst 0, 1) := by decide +kernel
theorem dL_law_109 : decode code 109 = .ok (.istore 7, 2) := by decide +kernel
theorem dL_law_111 : decode code 111 = .ok (.iload 5, 2) := by decide +kernel
theorem dL_law_113 : decode code 113 = .ok (.sipush 128, 3) := by decide +kernel
theorem dL_law_116 : decode code 116 = .ok (.idiv, 1) := by decide +kernel
theorem dL_law_117 : decode code 117 = .ok (.sipush 140, 3) := by decide +kernel
theorem dL_law_120 : decode code 120 = .ok (.irem, 1) := by decide +kernel
theorem dL_law_121 : decode code 121 = .ok (.istore 8, 2) := by decide +kernel
theorem dL_law_123 : decode code 123 = .ok (.iload 8, 2) := by decide +kernel
theorem dL_law_125 : decode code 125 = .ok (.iload 5, 2) := by decide +kernel
theorem dL_law_127 : decode code 127 = .ok (.ldc 131, 2) := by decide +kernel
theorem dL_law_129 : decode code 129 = .ok (.idiv, 1) := by decide +kernel
theorem dL_law_130 : decode code 130 = .ok (.bipush 30, 2) := by decide +kernel
theorem dL_law_132 : decode code 132 = .ok (.irem, 1) := by decide +kernel
theorem dL_law_133 : decode code 133 = .ok (.iadd, 1) := by decide +kernel
theorem dL_law_134 : decode code 134 = .ok (.istore 9, 2) := by decide +kernel
theorem dL_law_136 : decode code 136 = .ok (.iload 5, 2) := by decide +kernel
theorem dL_law_138 : decode code 138 = .ok (.bipush 8, 2) := by decide +kernel
theorem dL_law_140 : decode code 140 = .ok (.irem, 1) := by decide +kernel
theorem dL_law_141 : decode code 141 = .ok (.iconst 4, 1) := by decide +kernel
theorem dL_law_142 : decode code 142 = .ok (.if_icmp .ge 127, 3) := by decide +kernel
theorem dL_law_145 : decode code 145 = .ok (.aload_n 3, 1) := by decide +kernel
theorem dL_law_146 : decode code 146 = .ok (.getfield 132, 3) := by decide +kernel
theorem dL_law_149 : decode code 149 = .ok (.bipush 8, 2) := by decide +kernel
theorem dL_law_151 : decode code 151 = .ok (.if_icmp .ge 118, 3) := by decide +kernel
theorem dL_law_154 : decode code 154 = .ok (.aload_n 3, 1) := by decide +kernel
theorem dL_law_155 : decode code 155 = .ok (.iload 6, 2) := by decide +kernel
theorem dL_law_157 : decode code 157 = .ok (.iload 7, 2) := by decide +kernel
theorem dL_law_159 : decode code 159 = .ok (.iload 8, 2) := by decide +kernel
theorem dL_law_161 : decode code 161 = .ok (.iload 9, 2) := by decide +kernel
theorem dL_law_163 : decode code 163 = .ok (.invokevirtual 136, 3) := by decide +kernel
theorem dL_law_166 : decode code 166 = .ok (.istore 10, 2) := by decide +kernel
theorem dL_law_168 : decode code 168 = .ok (.iload 10, 2) := by decide +kernel
theorem dL_law_170 : decode code 170 = .ok (.ifCond .lt 16, 3) := by decide +kernel
theorem dL_law_173 : decode code 173 = .ok (.aload_n 3, 1) := by decide +kernel
theorem dL_law_174 : decode code 174 = .ok (.iload 6, 2) := by decide +kernel
theorem dL_law_176 : decode code 176 = .ok (.iload 7, 2) := by decide +kernel
theorem dL_law_178 : decode code 178 = .ok (.iload 10, 2) := by decide +kernel
theorem dL_law_180 : decode code 180 = .ok (.invokevirtual 139, 3) := by decide +kernel
theorem dL_law_183 : decode code 183 = .ok (.goto 57, 3) := by decide +kernel
theorem dL_law_186 : decode code 186 = .ok (.aload_n 3, 1) := by decide +kernel
theorem dL_law_187 : decode code 187 = .ok (.getfield 143, 3) := by decide +kernel
theorem dL_law_190 : decode code 190 = .ok (.aload_n 3, 1) := by decide +kernel
theorem dL_law_191 : decode code 191 = .ok (.getfield 132, 3) := by decide +kernel
theorem dL_law_194 : decode code 194 = .ok (.iload 6, 2) := by decide +kernel
theorem dL_law_196 : decode code 196 = .ok (.iastore, 1) := by decide +kernel
theorem dL_law_197 : decode code 197 = .ok (.aload_n 3, 1) := by decide +kernel
theorem dL_law_198 : decode code 198 = .ok (.getfield 147, 3) := by decide +kernel
theorem dL_law_201 : decode code 201 = .ok (.aload_n 3, 1) := by decide +kernel
theorem dL_law_202 : decode code 202 = .ok (.getfield 132, 3) := by decide +kernel
theorem dL_law_205 : decode code 205 = .ok (.iload 7, 2) := by decide +kernel
theorem dL_law_207 : decode code 207 = .ok (.bastore, 1) := by decide +kernel
theorem dL_law_208 : decode code 208 = .ok (.aload_n 3, 1) := by decide +kernel
theorem dL_law_209 : decode code 209 = .ok (.getfield 151, 3) := by decide +kernel
theorem dL_law_212 : decode code 212 = .ok (.aload_n 3, 1) := by decide +kernel
theorem dL_law_213 : decode code 213 = .ok (.getfield 132, 3) := by decide +kernel
theorem dL_law_216 : decode code 216 = .ok (.iload 8, 2) := by decide +kernel
theorem dL_law_218 : decode code 218 = .ok (.iastore, 1) := by decide +kernel
theorem dL_law_219 : decode code 219 = .ok (.aload_n 3, 1) := by decide +kernel
theorem dL_law_220 : decode code 220 = .ok (.getfield 154, 3) := by decide +kernel
theorem dL_law_223 : decode code 223 = .ok (.aload_n 3, 1) := by decide +kernel
theorem dL_law_224 : decode code 224 = .ok (.getfield 132, 3) := by decide +kernel
theorem dL_law_227 : decode code 227 = .ok (.iload 9, 2) := by decide +kernel
theorem dL_law_229 : decode code 229 = .ok (.iastore, 1) := by decide +kernel
theorem dL_law_230 : decode code 230 = .ok (.aload_n 3, 1) := by decide +kernel
theorem dL_law_231 : decode code 231 = .ok (.dup, 1) := by decide +kernel
theorem dL_law_232 : decode code 232 = .ok (.getfield 132, 3) := by decide +kernel
theorem dL_law_235 : decode code 235 = .ok (.iconst 1, 1) := by decide +kernel
theorem dL_law_236 : decode code 236 = .ok (.iadd, 1) := by decide +kernel
theorem dL_law_237 : decode code 237 = .ok (.putfield 132, 3) := by decide +kernel
theorem dL_law_240 : decode code 240 = .ok (.aload_n 1, 1) := by decide +kernel
theorem dL_law_241 : decode code 241 = .ok (.iload 6, 2) := by decide +kernel
theorem dL_law_243 : decode code 243 = .ok (.iload 7, 2) := by decide +kernel
theorem dL_law_245 : decode code 245 = .ok (.iload 8, 2) := by decide +kernel
theorem dL_law_247 : decode code 247 = .ok (.iload 9, 2) := by decide +kernel
theorem dL_law_249 : decode code 249 = .ok (.invokevirtual 102, 3) := by decide +kernel
theorem dL_law_252 : decode code 252 = .ok (.iload 10, 2) := by decide +kernel
theorem dL_law_254 : decode code 254 = .ok (.if_icmp .ne 10, 3) := by decide +kernel
theorem dL_law_257 : decode code 257 = .ok (.aload_n 3, 1) := by decide +kernel
