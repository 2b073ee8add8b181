theorem dX5_init_0 : decode cX5_init 0 = .ok (.aload_n 0, 1) := by decide +kernel
theorem dX5_init_1 : decode cX5_init 1 = .ok (.invokespecial 1, 3) := by decide +kernel
theorem dX5_init_4 : decode cX5_init 4 = .ok (.aload_n 0, 1) := by decide +kernel
theorem dX5_init_5 : decode cX5_init 5 = .ok (.bipush 12, 2) := by decide +kernel
theorem dX5_init_7 : decode cX5_init 7 = .ok (.newarray .int, 2) := by decide +kernel
theorem dX5_init_9 : decode cX5_init 9 = .ok (.putfield 9, 3) := by decide +kernel
theorem dX5_init_12 : decode cX5_init 12 = .ok (.aload_n 0, 1) := by decide +kernel
theorem dX5_init_13 : decode cX5_init 13 = .ok (.bipush 12, 2) := by decide +kernel
theorem dX5_init_15 : decode cX5_init 15 = .ok (.newarray .int, 2) := by decide +kernel
theorem dX5_init_17 : decode cX5_init 17 = .ok (.putfield 13, 3) := by decide +kernel
theorem dX5_init_20 : decode cX5_init 20 = .ok (.aload_n 0, 1) := by decide +kernel
theorem dX5_init_21 : decode cX5_init 21 = .ok (.bipush 12, 2) := by decide +kernel
theorem dX5_init_23 : decode cX5_init 23 = .ok (.newarray .int, 2) := by decide +kernel
theorem dX5_init_25 : decode cX5_init 25 = .ok (.putfield 16, 3) := by decide +kernel
theorem dX5_init_28 : decode cX5_init 28 = .ok (.aload_n 0, 1) := by decide +kernel
theorem dX5_init_29 : decode cX5_init 29 = .ok (.bipush 12, 2) := by decide +kernel
theorem dX5_init_31 : decode cX5_init 31 = .ok (.newarray .int, 2) := by decide +kernel
theorem dX5_init_33 : decode cX5_init 33 = .ok (.putfield 19, 3) := by decide +kernel
theorem dX5_init_36 : decode cX5_init 36 = .ok (.aload_n 0, 1) := by decide +kernel
theorem dX5_init_37 : decode cX5_init 37 = .ok (.bipush 12, 2) := by decide +kernel
theorem dX5_init_39 : decode cX5_init 39 = .ok (.newarray .int, 2) := by decide +kernel
theorem dX5_init_41 : decode cX5_init 41 = .ok (.putfield 22, 3) := by decide +kernel
theorem dX5_init_44 : decode cX5_init 44 = .ok (.aload_n 0, 1) := by decide +kernel
theorem dX5_init_45 : decode cX5_init 45 = .ok (.bipush 12, 2) := by decide +kernel
theorem dX5_init_47 : decode cX5_init 47 = .ok (.newarray .int, 2) := by decide +kernel
theorem dX5_init_49 : decode cX5_init 49 = .ok (.putfield 25, 3) := by decide +kernel
theorem dX5_init_52 : decode cX5_init 52 = .ok (.aload_n 0, 1) := by decide +kernel
theorem dX5_init_53 : decode cX5_init 53 = .ok (.bipush 72, 2) := by decide +kernel
theorem dX5_init_55 : decode cX5_init 55 = .ok (.newarray .int, 2) := by decide +kernel
theorem dX5_init_57 : decode cX5_init 57 = .ok (.putfield 28, 3) := by decide +kernel
theorem dX5_init_60 : decode cX5_init 60 = .ok (.aload_n 0, 1) := by decide +kernel
theorem dX5_init_61 : decode cX5_init 61 = .ok (.bipush 72, 2) := by decide +kernel
theorem dX5_init_63 : decode cX5_init 63 = .ok (.newarray .int, 2) := by decide +kernel
theorem dX5_init_65 : decode cX5_init 65 = .ok (.putfield 31, 3) := by decide +kernel
theorem dX5_init_68 : decode cX5_init 68 = .ok (.aload_n 0, 1) := by decide +kernel
theorem dX5_init_69 : decode cX5_init 69 = .ok (.sipush 3612, 3) := by decide +kernel
theorem dX5_init_72 : decode cX5_init 72 = .ok (.newarray .boolean, 2) := by decide +kernel
theorem dX5_init_74 : decode cX5_init 74 = .ok (.putfield 34, 3) := by decide +kernel
theorem dX5_init_77 : decode cX5_init 77 = .ok (.aload_n 0, 1) := by decide +kernel
theorem dX5_init_78 : decode cX5_init 78 = .ok (.ldc 38, 2) := by decide +kernel
theorem dX5_init_80 : decode cX5_init 80 = .ok (.newarray .int, 2) := by decide +kernel
theorem dX5_init_82 : decode cX5_init 82 = .ok (.putfield 39, 3) := by decide +kernel
theorem dX5_init_85 : decode cX5_init 85 = .ok (.aload_n 0, 1) := by decide +kernel
theorem dX5_init_86 : decode cX5_init 86 = .ok (.ldc 42, 2) := by decide +kernel
theorem dX5_init_88 : decode cX5_init 88 = .ok (.newarray .int, 2) := by decide +kernel
theorem dX5_init_90 : decode cX5_init 90 = .ok (.putfield 43, 3) := by decide +kernel
theorem dX5_init_93 : decode cX5_init 93 = .ok (.aload_n 0, 1) := by decide +kernel
theorem dX5_init_94 : decode cX5_init 94 = .ok (.bipush 12, 2) := by decide +kernel
theorem dX5_init_96 : decode cX5_init 96 = .ok (.newarray .int, 2) := by decide +kernel
theorem dX5_init_98 : decode cX5_init 98 = .ok (.putfield 46, 3) := by decide +kernel
theorem dX5_init_101 : decode cX5_init 101 = .ok (.aload_n 0, 1) := by decide +kernel
theorem dX5_init_102 : decode cX5_init 102 = .ok (.iconst 1, 1) := by decide +kernel
theorem dX5_init_103 : decode cX5_init 103 = .ok (.putfield 49, 3) := by decide +kernel
theorem dX5_init_106 : decode cX5_init 106 = .ok (.aload_n 0, 1) := by decide +kernel
theorem dX5_init_107 : decode cX5_init 107 = .ok (.bipush 60, 2) := by decide +kernel
theorem dX5_init_109 : decode cX5_init 109 = .ok (.newarray .int, 2) := by decide +kernel
theorem dX5_init_111 : decode cX5_init 111 = .ok (.putfield 53, 3) := by decide +kernel
theorem dX5_init_114 : decode cX5_init 114 = .ok (.aload_n 0, 1) := by decide +kernel
theorem dX5_init_115 : decode cX5_init 115 = .ok (.bipush 60, 2) := by decide +kernel
theorem dX5_init_117 : decode cX5_init 117 = .ok (.newarray .int, 2) := by decide +kernel
theorem dX5_init_119 : decode cX5_init 119 = .ok (.putfield 56, 3) := by decide +kernel
theorem dX5_init_122 : decode cX5_init 122 = .ok (.aload_n 0, 1) := by decide +kernel
theorem dX5_init_123 : decode cX5_init 123 = .ok (.bipush 60, 2) := by decide +kernel
theorem dX5_init_125 : decode cX5_init 125 = .ok (.newarray .int, 2) := by decide +kernel
theorem dX5_init_127 : decode cX5_init 127 = .ok (.putfield 59, 3) := by decide +kernel
theorem dX5_init_130 : decode cX5_init 130 = .ok (.aload_n 0, 1) := by decide +kernel
theorem dX5_init_131 : decode cX5_init 131 = .ok (.bipush 60, 2) := by decide +kernel
theorem dX5_init_133 : decode cX5_init 133 = .ok (.newarray .int, 2) := by decide +kernel
theorem dX5_init_135 : decode cX5_init 135 = .ok (.putfield 62, 3) := by decide +kernel
theorem dX5_init_138 : decode cX5_init 138 = .ok (.aload_n 0, 1) := by decide +kernel
theorem dX5_init_139 : decode cX5_init 139 = .ok (.bipush 60, 2) := by decide +kernel
theorem dX5_init_141 : decode cX5_init 141 = .ok (.newarray .int, 2) := by decide +kernel
theorem dX5_init_143 : decode cX5_init 143 = .ok (.putfield 65, 3) := by decide +kernel
theorem dX5_init_146 : decode cX5_init 146 = .ok (.aload_n 0, 1) := by decide +kernel
theorem dX5_init_147 : decode cX5_init 147 = .ok (.bipush 60, 2) := by decide +kernel
theorem dX5_init_149 : decode cX5_init 149 = .ok (.newarray .int, 2) := by decide +kernel
theorem dX5_init_151 : decode cX5_init 151 = .ok (.putfield 68, 3) := by decide +kernel
theorem dX5_init_154 : decode cX5_init 154 = .ok (.aload_n 0, 1) := by decide +kernel
theorem dX5_init_155 : decode cX5_init 155 = .ok (.bipush 60, 2) := by decide +kernel
theorem dX5_init_157 : decode cX5_init 157 = .ok (.newarray .int, 2) := by decide +kernel
theorem dX5_init_159 : decode cX5_init 159 = .ok (.putfield 71, 3) := by decide +kernel
theorem dX5_init_162 : decode cX5_init 162 = .ok (.aload_n 0, 1) := by decide +kernel
theorem dX5_init_163 : decode cX5_init 163 = .ok (.bipush 60, 2) := by decide +kernel
theorem dX5_init_165 : decode cX5_init 165 = .ok (.newarray .int, 2) := by decide +kernel
theorem dX5_init_167 : decode cX5_init 167 = .ok (.putfield 74, 3) := by decide +kernel
theorem dX5_init_170 : decode cX5_init 170 = .ok (.aload_n 0, 1) := by decide +kernel
theorem dX5_init_171 : decode cX5_init 171 = .ok (.bipush 60, 2) := by decide +kernel
theorem dX5_init_173 : decode cX5_init 173 = .ok (.newarray .int, 2) := by decide +kernel
theorem dX5_init_175 : decode cX5_init 175 = .ok (.putfield 77, 3) := by decide +kernel
theorem dX5_init_178 : decode cX5_init 178 = .ok (.aload_n 0, 1) := by decide +kernel
theorem dX5_init_179 : decode cX5_init 179 = .ok (.bipush 81, 2) := by decide +kernel
theorem dX5_init_181 : decode cX5_init 181 = .ok (.newarray .int, 2) := by decide +kernel
theorem dX5_init_183 : decode cX5_init 183 = .ok (.putfield 80, 3) := by decide +kernel
theorem dX5_init_186 : decode cX5_init 186 = .ok (.aload_n 0, 1) := by decide +kernel
theorem dX5_init_187 : decode cX5_init 187 = .ok (.bipush 9, 2) := by decide +kernel
theorem dX5_init_189 : decode cX5_init 189 = .ok (.newarray .int, 2) := by decide +kernel
theorem dX5_init_191 : decode cX5_init 191 = .ok (.putfield 83, 3) := by decide +kernel
theorem dX5_init_194 : decode cX5_init 194 = .ok (.aload_n 0, 1) := by decide +kernel
theorem dX5_init_195 : decode cX5_init 195 = .ok (.bipush 9, 2) := by decide +kernel
theorem dX5_init_197 : decode cX5_init 197 = .ok (.newarray .int, 2) := by decide +kernel
theorem dX5_init_199 : decode cX5_init 199 = .ok (.putfield 86, 3) := by decide +kernel
theorem dX5_init_202 : decode cX5_init 202 = .ok (.aload_n 0, 1) := by decide +kernel
theorem dX5_init_203 : decode cX5_init 203 = .ok (.bipush 9, 2) := by decide +kernel
theorem dX5_init_205 : decode cX5_init 205 = .ok (.newarray .int, 2) := by decide +kernel
theorem dX5_init_207 : decode cX5_init 207 = .ok (.putfield 89, 3) := by decide +kernel
theorem dX5_init_210 : decode cX5_init 210 = .ok (.aload_n 0, 1) := by decide +kernel
theorem dX5_init_211 : decode cX5_init 211 = .ok (.bipush 9, 2) := by decide +kernel
theorem dX5_init_213 : decode cX5_init 213 = .ok (.newarray .int, 2) := by decide +kernel
theorem dX5_init_215 : decode cX5_init 215 = .ok (.putfield 92, 3) := by decide +kernel
theorem dX5_init_218 : decode cX5_init 218 = .ok (.aload_n 0, 1) := by decide +kernel
theorem dX5_init_219 : decode cX5_init 219 = .ok (.bipush 9, 2) := by decide +kernel
theorem dX5_init_221 : decode cX5_init 221 = .ok (.newarray .boolean, 2) := by decide +kernel
theorem dX5_init_223 : decode cX5_init 223 = .ok (.putfield 95, 3) := by decide +kernel
theorem dX5_init_226 : decode cX5_init 226 = .ok (.aload_n 0, 1) := by decide +kernel
theorem dX5_init_227 : decode cX5_init 227 = .ok (.bipush 9, 2) := by decide +kernel
theorem dX5_init_229 : decode cX5_init 229 = .ok (.newarray .boolean, 2) := by decide +kernel
theorem dX5_init_231 : decode cX5_init 231 = .ok (.putfield 98, 3) := by decide +kernel
theorem dX5_init_234 : decode cX5_init 234 = .ok (.iconst 0, 1) := by decide +kernel
theorem dX5_init_235 : decode cX5_init 235 = .ok (.istore_n 1, 1) := by decide +kernel
theorem dX5_init_236 : decode cX5_init 236 = .ok (.iload_n 1, 1) := by decide +kernel
theorem dX5_init_237 : decode cX5_init 237 = .ok (.bipush 81, 2) := by decide +kernel
theorem dX5_init_239 : decode cX5_init 239 = .ok (.if_icmp .ge 17, 3) := by decide +kernel
theorem dX5_init_242 : decode cX5_init 242 = .ok (.aload_n 0, 1) := by decide +kernel
theorem dX5_init_243 : decode cX5_init 243 = .ok (.getfield 80, 3) := by decide +kernel
theorem dX5_init_246 : decode cX5_init 246 = .ok (.iload_n 1, 1) := by decide +kernel
theorem dX5_init_247 : decode cX5_init 247 = .ok (.bipush 10, 2) := by decide +kernel
theorem dX5_init_249 : decode cX5_init 249 = .ok (.iastore, 1) := by decide +kernel
theorem dX5_init_250 : decode cX5_init 250 = .ok (.iinc 1 1, 3) := by decide +kernel
theorem dX5_init_253 : decode cX5_init 253 = .ok (.goto (-17), 3) := by decide +kernel
theorem dX5_init_256 : decode cX5_init 256 = .ok (.return_, 1) := by decide +kernel
theorem dX5_isIn_0 : decode cX5_isIn 0 = .ok (.iload_n 0, 1) := by decide +kernel
theorem dX5_isIn_1 : decode cX5_isIn 1 = .ok (.iload_n 1, 1) := by decide +kernel
theorem dX5_isIn_2 : decode cX5_isIn 2 = .ok (.if_icmp .lt 12, 3) := by decide +kernel
theorem dX5_isIn_5 : decode cX5_isIn 5 = .ok (.iload_n 0, 1) := by decide +kernel
theorem dX5_isIn_6 : decode cX5_isIn 6 = .ok (.iload_n 2, 1) := by decide +kernel
theorem dX5_isIn_7 : decode cX5_isIn 7 = .ok (.if_icmp .gt 7, 3) := by decide +kernel
theorem dX5_isIn_10 : decode cX5_isIn 10 = .ok (.iconst 1, 1) := by decide +kernel
theorem dX5_isIn_11 : decode cX5_isIn 11 = .ok (.goto 4, 3) := by decide +kernel
theorem dX5_isIn_14 : decode cX5_isIn 14 = .ok (.iconst 0, 1) := by decide +kernel
theorem dX5_isIn_15 : decode cX5_isIn 15 = .ok (.ireturn, 1) := by decide +kernel
theorem dX5_isCart_0 : decode cX5_isCart 0 = .ok (.iload_n 1, 1) := by decide +kernel
theorem dX5_isCart_1 : decode cX5_isCart 1 = .ok (.ifCond .lt 15, 3) := by decide +kernel
theorem dX5_isCart_4 : decode cX5_isCart 4 = .ok (.iload_n 1, 1) := by decide +kernel
theorem dX5_isCart_5 : decode cX5_isCart 5 = .ok (.aload_n 0, 1) := by decide +kernel
theorem dX5_isCart_6 : decode cX5_isCart 6 = .ok (.getfield 104, 3) := by decide +kernel
theorem dX5_isCart_9 : decode cX5_isCart 9 = .ok (.if_icmp .ge 7, 3) := by decide +kernel
theorem dX5_isCart_12 : decode cX5_isCart 12 = .ok (.iconst 1, 1) := by decide +kernel
theorem dX5_isCart_13 : decode cX5_isCart 13 = .ok (.goto 4, 3) := by decide +kernel
theorem dX5_isCart_16 : decode cX5_isCart 16 = .ok (.iconst 0, 1) := by decide +kernel
theorem dX5_isCart_17 : decode cX5_isCart 17 = .ok (.ireturn, 1) := by decide +kernel
theorem dX5_isPlace_0 : decode cX5_isPlace 0 = .ok (.iload_n 0, 1) := by decide +kernel
theorem dX5_isPlace_1 : decode cX5_isPlace 1 = .ok (.ifCond .lt 13, 3) := by decide +kernel
theorem dX5_isPlace_4 : decode cX5_isPlace 4 = .ok (.iload_n 0, 1) := by decide +kernel
theorem dX5_isPlace_5 : decode cX5_isPlace 5 = .ok (.bipush 12, 2) := by decide +kernel
theorem dX5_isPlace_7 : decode cX5_isPlace 7 = .ok (.if_icmp .ge 7, 3) := by decide +kernel
theorem dX5_isPlace_10 : decode cX5_isPlace 10 = .ok (.iconst 1, 1) := by decide +kernel
theorem dX5_isPlace_11 : decode cX5_isPlace 11 = .ok (.goto 4, 3) := by decide +kernel
theorem dX5_isPlace_14 : decode cX5_isPlace 14 = .ok (.iconst 0, 1) := by decide +kernel
theorem dX5_isPlace_15 : decode cX5_isPlace 15 = .ok (.ireturn, 1) := by decide +kernel
theorem dX5_isBusy_0 : decode cX5_isBusy 0 = .ok (.iconst 0, 1) := by decide +kernel
theorem dX5_isBusy_1 : decode cX5_isBusy 1 = .ok (.istore_n 2, 1) := by decide +kernel
theorem dX5_isBusy_2 : decode cX5_isBusy 2 = .ok (.iload_n 2, 1) := by decide +kernel
theorem dX5_isBusy_3 : decode cX5_isBusy 3 = .ok (.aload_n 0, 1) := by decide +kernel
theorem dX5_isBusy_4 : decode cX5_isBusy 4 = .ok (.getfield 107, 3) := by decide +kernel
theorem dX5_isBusy_7 : decode cX5_isBusy 7 = .ok (.if_icmp .ge 21, 3) := by decide +kernel
theorem dX5_isBusy_10 : decode cX5_isBusy 10 = .ok (.aload_n 0, 1) := by decide +kernel
theorem dX5_isBusy_11 : decode cX5_isBusy 11 = .ok (.getfield 62, 3) := by decide +kernel
theorem dX5_isBusy_14 : decode cX5_isBusy 14 = .ok (.iload_n 2, 1) := by decide +kernel
theorem dX5_isBusy_15 : decode cX5_isBusy 15 = .ok (.iaload, 1) := by decide +kernel
theorem dX5_isBusy_16 : decode cX5_isBusy 16 = .ok (.iload_n 1, 1) := by decide +kernel
theorem dX5_isBusy_17 : decode cX5_isBusy 17 = .ok (.if_icmp .ne 5, 3) := by decide +kernel
theorem dX5_isBusy_20 : decode cX5_isBusy 20 = .ok (.iconst 1, 1) := by decide +kernel
theorem dX5_isBusy_21 : decode cX5_isBusy 21 = .ok (.ireturn, 1) := by decide +kernel
theorem dX5_isBusy_22 : decode cX5_isBusy 22 = .ok (.iinc 2 1, 3) := by decide +kernel
theorem dX5_isBusy_25 : decode cX5_isBusy 25 = .ok (.goto (-23), 3) := by decide +kernel
theorem dX5_isBusy_28 : decode cX5_isBusy 28 = .ok (.iconst 0, 1) := by decide +kernel
theorem dX5_isBusy_29 : decode cX5_isBusy 29 = .ok (.ireturn, 1) := by decide +kernel
theorem dX5_cart_0 : decode cX5_cart 0 = .ok (.aload_n 0, 1) := by decide +kernel
theorem dX5_cart_1 : decode cX5_cart 1 = .ok (.iconst 0, 1) := by decide +kernel
theorem dX5_cart_2 : decode cX5_cart 2 = .ok (.putfield 101, 3) := by decide +kernel
theorem dX5_cart_5 : decode cX5_cart 5 = .ok (.aload_n 0, 1) := by decide +kernel
theorem dX5_cart_6 : decode cX5_cart 6 = .ok (.getfield 104, 3) := by decide +kernel
theorem dX5_cart_9 : decode cX5_cart 9 = .ok (.bipush 12, 2) := by decide +kernel
theorem dX5_cart_11 : decode cX5_cart 11 = .ok (.if_icmp .eq 52, 3) := by decide +kernel
theorem dX5_cart_14 : decode cX5_cart 14 = .ok (.iload_n 1, 1) := by decide +kernel
theorem dX5_cart_15 : decode cX5_cart 15 = .ok (.iconst 0, 1) := by decide +kernel
theorem dX5_cart_16 : decode cX5_cart 16 = .ok (.bipush 127, 2) := by decide +kernel
theorem dX5_cart_18 : decode cX5_cart 18 = .ok (.invokestatic 110, 3) := by decide +kernel
theorem dX5_cart_21 : decode cX5_cart 21 = .ok (.ifCond .eq 42, 3) := by decide +kernel
theorem dX5_cart_24 : decode cX5_cart 24 = .ok (.iload_n 2, 1) := by decide +kernel
theorem dX5_cart_25 : decode cX5_cart 25 = .ok (.iconst 0, 1) := by decide +kernel
theorem dX5_cart_26 : decode cX5_cart 26 = .ok (.bipush 23, 2) := by decide +kernel
theorem dX5_cart_28 : decode cX5_cart 28 = .ok (.invokestatic 110, 3) := by decide +kernel
theorem dX5_cart_31 : decode cX5_cart 31 = .ok (.ifCond .eq 32, 3) := by decide +kernel
theorem dX5_cart_34 : decode cX5_cart 34 = .ok (.iload_n 3, 1) := by decide +kernel
theorem dX5_cart_35 : decode cX5_cart 35 = .ok (.iconst 0, 1) := by decide +kernel
theorem dX5_cart_36 : decode cX5_cart 36 = .ok (.bipush 50, 2) := by decide +kernel
theorem dX5_cart_38 : decode cX5_cart 38 = .ok (.invokestatic 110, 3) := by decide +kernel
theorem dX5_cart_41 : decode cX5_cart 41 = .ok (.ifCond .eq 22, 3) := by decide +kernel
theorem dX5_cart_44 : decode cX5_cart 44 = .ok (.iload 4, 2) := by decide +kernel
theorem dX5_cart_46 : decode cX5_cart 46 = .ok (.iconst 0, 1) := by decide +kernel
theorem dX5_cart_47 : decode cX5_cart 47 = .ok (.bipush 20, 2) := by decide +kernel
theorem dX5_cart_49 : decode cX5_cart 49 = .ok (.invokestatic 110, 3) := by decide +kernel
theorem dX5_cart_52 : decode cX5_cart 52 = .ok (.ifCond .eq 11, 3) := by decide +kernel
theorem dX5_cart_55 : decode cX5_cart 55 = .ok (.iload 5, 2) := by decide +kernel
theorem dX5_cart_57 : decode cX5_cart 57 = .ok (.invokestatic 114, 3) := by decide +kernel
theorem dX5_cart_60 : decode cX5_cart 60 = .ok (.ifCond .ne 5, 3) := by decide +kernel
theorem dX5_cart_63 : decode cX5_cart 63 = .ok (.iconst (-1), 1) := by decide +kernel
theorem dX5_cart_64 : decode cX5_cart 64 = .ok (.ireturn, 1) := by decide +kernel
theorem dX5_cart_65 : decode cX5_cart 65 = .ok (.aload_n 0, 1) := by decide +kernel
theorem dX5_cart_66 : decode cX5_cart 66 = .ok (.getfield 9, 3) := by decide +kernel
theorem dX5_cart_69 : decode cX5_cart 69 = .ok (.aload_n 0, 1) := by decide +kernel
theorem dX5_cart_70 : decode cX5_cart 70 = .ok (.getfield 104, 3) := by decide +kernel
theorem dX5_cart_73 : decode cX5_cart 73 = .ok (.iload_n 1, 1) := by decide +kernel
theorem dX5_cart_74 : decode cX5_cart 74 = .ok (.iastore, 1) := by decide +kernel
theorem dX5_cart_75 : decode cX5_cart 75 = .ok (.aload_n 0, 1) := by decide +kernel
theorem dX5_cart_76 : decode cX5_cart 76 = .ok (.getfield 13, 3) := by decide +kernel
theorem dX5_cart_79 : decode cX5_cart 79 = .ok (.aload_n 0, 1) := by decide +kernel
theorem dX5_cart_80 : decode cX5_cart 80 = .ok (.getfield 104, 3) := by decide +kernel
theorem dX5_cart_83 : decode cX5_cart 83 = .ok (.iload_n 2, 1) := by decide +kernel
theorem dX5_cart_84 : decode cX5_cart 84 = .ok (.iastore, 1) := by decide +kernel
theorem dX5_cart_85 : decode cX5_cart 85 = .ok (.aload_n 0, 1) := by decide +kernel
theorem dX5_cart_86 : decode cX5_cart 86 = .ok (.getfield 16, 3) := by decide +kernel
theorem dX5_cart_89 : decode cX5_cart 89 = .ok (.aload_n 0, 1) := by decide +kernel
theorem dX5_cart_90 : decode cX5_cart 90 = .ok (.getfield 104, 3) := by decide +kernel
theorem dX5_cart_93 : decode cX5_cart 93 = .ok (.iload_n 3, 1) := by decide +kernel
theorem dX5_cart_94 : decode cX5_cart 94 = .ok (.iastore, 1) := by decide +kernel
theorem dX5_cart_95 : decode cX5_cart 95 = .ok (.aload_n 0, 1) := by decide +kernel
theorem dX5_cart_96 : decode cX5_cart 96 = .ok (.getfield 19, 3) := by decide +kernel
theorem dX5_cart_99 : decode cX5_cart 99 = .ok (.aload_n 0, 1) := by decide +kernel
theorem dX5_cart_100 : decode cX5_cart 100 = .ok (.getfield 104, 3) := by decide +kernel
theorem dX5_cart_103 : decode cX5_cart 103 = .ok (.iload 4, 2) := by decide +kernel
theorem dX5_cart_105 : decode cX5_cart 105 = .ok (.iastore, 1) := by decide +kernel
theorem dX5_cart_106 : decode cX5_cart 106 = .ok (.aload_n 0, 1) := by decide +kernel
theorem dX5_cart_107 : decode cX5_cart 107 = .ok (.getfield 22, 3) := by decide +kernel
theorem dX5_cart_110 : decode cX5_cart 110 = .ok (.aload_n 0, 1) := by decide +kernel
theorem dX5_cart_111 : decode cX5_cart 111 = .ok (.getfield 104, 3) := by decide +kernel
theorem dX5_cart_114 : decode cX5_cart 114 = .ok (.iconst 1, 1) := by decide +kernel
theorem dX5_cart_115 : decode cX5_cart 115 = .ok (.iastore, 1) := by decide +kernel
theorem dX5_cart_116 : decode cX5_cart 116 = .ok (.aload_n 0, 1) := by decide +kernel
theorem dX5_cart_117 : decode cX5_cart 117 = .ok (.getfield 28, 3) := by decide +kernel
theorem dX5_cart_120 : decode cX5_cart 120 = .ok (.bipush 6, 2) := by decide +kernel
theorem dX5_cart_122 : decode cX5_cart 122 = .ok (.aload_n 0, 1) := by decide +kernel
theorem dX5_cart_123 : decode cX5_cart 123 = .ok (.getfield 104, 3) := by decide +kernel
theorem dX5_cart_126 : decode cX5_cart 126 = .ok (.imul, 1) := by decide +kernel
theorem dX5_cart_127 : decode cX5_cart 127 = .ok (.iload 5, 2) := by decide +kernel
theorem dX5_cart_129 : decode cX5_cart 129 = .ok (.iastore, 1) := by decide +kernel
theorem dX5_cart_130 : decode cX5_cart 130 = .ok (.aload_n 0, 1) := by decide +kernel
theorem dX5_cart_131 : decode cX5_cart 131 = .ok (.getfield 31, 3) := by decide +kernel
theorem dX5_cart_134 : decode cX5_cart 134 = .ok (.bipush 6, 2) := by decide +kernel
theorem dX5_cart_136 : decode cX5_cart 136 = .ok (.aload_n 0, 1) := by decide +kernel
theorem dX5_cart_137 : decode cX5_cart 137 = .ok (.getfield 104, 3) := by decide +kernel
theorem dX5_cart_140 : decode cX5_cart 140 = .ok (.imul, 1) := by decide +kernel
theorem dX5_cart_141 : decode cX5_cart 141 = .ok (.iconst 0, 1) := by decide +kernel
theorem dX5_cart_142 : decode cX5_cart 142 = .ok (.iastore, 1) := by decide +kernel
theorem dX5_cart_143 : decode cX5_cart 143 = .ok (.aload_n 0, 1) := by decide +kernel
theorem dX5_cart_144 : decode cX5_cart 144 = .ok (.dup, 1) := by decide +kernel
theorem dX5_cart_145 : decode cX5_cart 145 = .ok (.getfield 104, 3) := by decide +kernel
theorem dX5_cart_148 : decode cX5_cart 148 = .ok (.iconst 1, 1) := by decide +kernel
theorem dX5_cart_149 : decode cX5_cart 149 = .ok (.iadd, 1) := by decide +kernel
theorem dX5_cart_150 : decode cX5_cart 150 = .ok (.putfield 104, 3) := by decide +kernel
theorem dX5_cart_153 : decode cX5_cart 153 = .ok (.aload_n 0, 1) := by decide +kernel
theorem dX5_cart_154 : decode cX5_cart 154 = .ok (.invokevirtual 118, 3) := by decide +kernel
theorem dX5_cart_157 : decode cX5_cart 157 = .ok (.aload_n 0, 1) := by decide +kernel
theorem dX5_cart_158 : decode cX5_cart 158 = .ok (.getfield 104, 3) := by decide +kernel
theorem dX5_cart_161 : decode cX5_cart 161 = .ok (.iconst 1, 1) := by decide +kernel
theorem dX5_cart_162 : decode cX5_cart 162 = .ok (.isub, 1) := by decide +kernel
theorem dX5_cart_163 : decode cX5_cart 163 = .ok (.ireturn, 1) := by decide +kernel
theorem dX5_stop_0 : decode cX5_stop 0 = .ok (.aload_n 0, 1) := by decide +kernel
theorem dX5_stop_1 : decode cX5_stop 1 = .ok (.iconst 0, 1) := by decide +kernel
theorem dX5_stop_2 : decode cX5_stop 2 = .ok (.putfield 101, 3) := by decide +kernel
theorem dX5_stop_5 : decode cX5_stop 5 = .ok (.aload_n 0, 1) := by decide +kernel
theorem dX5_stop_6 : decode cX5_stop 6 = .ok (.iload_n 1, 1) := by decide +kernel
theorem dX5_stop_7 : decode cX5_stop 7 = .ok (.invokevirtual 121, 3) := by decide +kernel
theorem dX5_stop_10 : decode cX5_stop 10 = .ok (.ifCond .eq 58, 3) := by decide +kernel
theorem dX5_stop_13 : decode cX5_stop 13 = .ok (.iload_n 2, 1) := by decide +kernel
theorem dX5_stop_14 : decode cX5_stop 14 = .ok (.invokestatic 114, 3) := by decide +kernel
theorem dX5_stop_17 : decode cX5_stop 17 = .ok (.ifCond .eq 51, 3) := by decide +kernel
theorem dX5_stop_20 : decode cX5_stop 20 = .ok (.aload_n 0, 1) := by decide +kernel
theorem dX5_stop_21 : decode cX5_stop 21 = .ok (.getfield 22, 3) := by decide +kernel
theorem dX5_stop_24 : decode cX5_stop 24 = .ok (.iload_n 1, 1) := by decide +kernel
theorem dX5_stop_25 : decode cX5_stop 25 = .ok (.iaload, 1) := by decide +kernel
theorem dX5_stop_26 : decode cX5_stop 26 = .ok (.bipush 6, 2) := by decide +kernel
theorem dX5_stop_28 : decode cX5_stop 28 = .ok (.if_icmp .eq 40, 3) := by decide +kernel
theorem dX5_stop_31 : decode cX5_stop 31 = .ok (.aload_n 0, 1) := by decide +kernel
theorem dX5_stop_32 : decode cX5_stop 32 = .ok (.iload_n 1, 1) := by decide +kernel
theorem dX5_stop_33 : decode cX5_stop 33 = .ok (.invokevirtual 124, 3) := by decide +kernel
theorem dX5_stop_36 : decode cX5_stop 36 = .ok (.ifCond .ne 32, 3) := by decide +kernel
theorem dX5_stop_39 : decode cX5_stop 39 = .ok (.iload_n 3, 1) := by decide +kernel
theorem dX5_stop_40 : decode cX5_stop 40 = .ok (.aload_n 0, 1) := by decide +kernel
theorem dX5_stop_41 : decode cX5_stop 41 = .ok (.getfield 31, 3) := by decide +kernel
theorem dX5_stop_44 : decode cX5_stop 44 = .ok (.bipush 6, 2) := by decide +kernel
theorem dX5_stop_46 : decode cX5_stop 46 = .ok (.iload_n 1, 1) := by decide +kernel
theorem dX5_stop_47 : decode cX5_stop 47 = .ok (.imul, 1) := by decide +kernel
theorem dX5_stop_48 : decode cX5_stop 48 = .ok (.aload_n 0, 1) := by decide +kernel
theorem dX5_stop_49 : decode cX5_stop 49 = .ok (.getfield 22, 3) := by decide +kernel
theorem dX5_stop_52 : decode cX5_stop 52 = .ok (.iload_n 1, 1) := by decide +kernel
theorem dX5_stop_53 : decode cX5_stop 53 = .ok (.iaload, 1) := by decide +kernel
theorem dX5_stop_54 : decode cX5_stop 54 = .ok (.iadd, 1) := by decide +kernel
theorem dX5_stop_55 : decode cX5_stop 55 = .ok (.iconst 1, 1) := by decide +kernel
theorem dX5_stop_56 : decode cX5_stop 56 = .ok (.isub, 1) := by decide +kernel
theorem dX5_stop_57 : decode cX5_stop 57 = .ok (.iaload, 1) := by decide +kernel
theorem dX5_stop_58 : decode cX5_stop 58 = .ok (.iconst 1, 1) := by decide +kernel
theorem dX5_stop_59 : decode cX5_stop 59 = .ok (.iadd, 1) := by decide +kernel
theorem dX5_stop_60 : decode cX5_stop 60 = .ok (.bipush 60, 2) := by decide +kernel
theorem dX5_stop_62 : decode cX5_stop 62 = .ok (.invokestatic 110, 3) := by decide +kernel
theorem dX5_stop_65 : decode cX5_stop 65 = .ok (.ifCond .ne 5, 3) := by decide +kernel
theorem dX5_stop_68 : decode cX5_stop 68 = .ok (.iconst (-1), 1) := by decide +kernel
theorem dX5_stop_69 : decode cX5_stop 69 = .ok (.ireturn, 1) := by decide +kernel
theorem dX5_stop_70 : decode cX5_stop 70 = .ok (.aload_n 0, 1) := by decide +kernel
theorem dX5_stop_71 : decode cX5_stop 71 = .ok (.getfield 28, 3) := by decide +kernel
theorem dX5_stop_74 : decode cX5_stop 74 = .ok (.bipush 6, 2) := by decide +kernel
theorem dX5_stop_76 : decode cX5_stop 76 = .ok (.iload_n 1, 1) := by decide +kernel
theorem dX5_stop_77 : decode cX5_stop 77 = .ok (.imul, 1) := by decide +kernel
theorem dX5_stop_78 : decode cX5_stop 78 = .ok (.aload_n 0, 1) := by decide +kernel
theorem dX5_stop_79 : decode cX5_stop 79 = .ok (.getfield 22, 3) := by decide +kernel
theorem dX5_stop_82 : decode cX5_stop 82 = .ok (.iload_n 1, 1) := by decide +kernel
theorem dX5_stop_83 : decode cX5_stop 83 = .ok (.iaload, 1) := by decide +kernel
theorem dX5_stop_84 : decode cX5_stop 84 = .ok (.iadd, 1) := by decide +kernel
theorem dX5_stop_85 : decode cX5_stop 85 = .ok (.iload_n 2, 1) := by decide +kernel
theorem dX5_stop_86 : decode cX5_stop 86 = .ok (.iastore, 1) := by decide +kernel
theorem dX5_stop_87 : decode cX5_stop 87 = .ok (.aload_n 0, 1) := by decide +kernel
theorem dX5_stop_88 : decode cX5_stop 88 = .ok (.getfield 31, 3) := by decide +kernel
theorem dX5_stop_91 : decode cX5_stop 91 = .ok (.bipush 6, 2) := by decide +kernel
theorem dX5_stop_93 : decode cX5_stop 93 = .ok (.iload_n 1, 1) := by decide +kernel
theorem dX5_stop_94 : decode cX5_stop 94 = .ok (.imul, 1) := by decide +kernel
theorem dX5_stop_95 : decode cX5_stop 95 = .ok (.aload_n 0, 1) := by decide +kernel
theorem dX5_stop_96 : decode cX5_stop 96 = .ok (.getfield 22, 3) := by decide +kernel
theorem dX5_stop_99 : decode cX5_stop 99 = .ok (.iload_n 1, 1) := by decide +kernel
theorem dX5_stop_100 : decode cX5_stop 100 = .ok (.iaload, 1) := by decide +kernel
theorem dX5_stop_101 : decode cX5_stop 101 = .ok (.iadd, 1) := by decide +kernel
theorem dX5_stop_102 : decode cX5_stop 102 = .ok (.iload_n 3, 1) := by decide +kernel
theorem dX5_stop_103 : decode cX5_stop 103 = .ok (.iastore, 1) := by decide +kernel
theorem dX5_stop_104 : decode cX5_stop 104 = .ok (.aload_n 0, 1) := by decide +kernel
theorem dX5_stop_105 : decode cX5_stop 105 = .ok (.getfield 22, 3) := by decide +kernel
theorem dX5_stop_108 : decode cX5_stop 108 = .ok (.iload_n 1, 1) := by decide +kernel
theorem dX5_stop_109 : decode cX5_stop 109 = .ok (.dup2, 1) := by decide +kernel
theorem dX5_stop_110 : decode cX5_stop 110 = .ok (.iaload, 1) := by decide +kernel
theorem dX5_stop_111 : decode cX5_stop 111 = .ok (.iconst 1, 1) := by decide +kernel
theorem dX5_stop_112 : decode cX5_stop 112 = .ok (.iadd, 1) := by decide +kernel
theorem dX5_stop_113 : decode cX5_stop 113 = .ok (.iastore, 1) := by decide +kernel
theorem dX5_stop_114 : decode cX5_stop 114 = .ok (.aload_n 0, 1) := by decide +kernel
theorem dX5_stop_115 : decode cX5_stop 115 = .ok (.invokevirtual 118, 3) := by decide +kernel
theorem dX5_stop_118 : decode cX5_stop 118 = .ok (.aload_n 0, 1) := by decide +kernel
theorem dX5_stop_119 : decode cX5_stop 119 = .ok (.getfield 22, 3) := by decide +kernel
theorem dX5_stop_122 : decode cX5_stop 122 = .ok (.iload_n 1, 1) := by decide +kernel
theorem dX5_stop_123 : decode cX5_stop 123 = .ok (.iaload, 1) := by decide +kernel
theorem dX5_stop_124 : decode cX5_stop 124 = .ok (.ireturn, 1) := by decide +kernel
theorem dX5_change_0 : decode cX5_change 0 = .ok (.aload_n 0, 1) := by decide +kernel
theorem dX5_change_1 : decode cX5_change 1 = .ok (.iconst 0, 1) := by decide +kernel
theorem dX5_change_2 : decode cX5_change 2 = .ok (.putfield 101, 3) := by decide +kernel
theorem dX5_change_5 : decode cX5_change 5 = .ok (.aload_n 0, 1) := by decide +kernel
theorem dX5_change_6 : decode cX5_change 6 = .ok (.iload_n 1, 1) := by decide +kernel
theorem dX5_change_7 : decode cX5_change 7 = .ok (.invokevirtual 121, 3) := by decide +kernel
theorem dX5_change_10 : decode cX5_change 10 = .ok (.ifCond .eq 42, 3) := by decide +kernel
theorem dX5_change_13 : decode cX5_change 13 = .ok (.iload_n 2, 1) := by decide +kernel
theorem dX5_change_14 : decode cX5_change 14 = .ok (.iconst 0, 1) := by decide +kernel
theorem dX5_change_15 : decode cX5_change 15 = .ok (.bipush 127, 2) := by decide +kernel
theorem dX5_change_17 : decode cX5_change 17 = .ok (.invokestatic 110, 3) := by decide +kernel
theorem dX5_change_20 : decode cX5_change 20 = .ok (.ifCond .eq 32, 3) := by decide +kernel
theorem dX5_change_23 : decode cX5_change 23 = .ok (.iload_n 3, 1) := by decide +kernel
theorem dX5_change_24 : decode cX5_change 24 = .ok (.iconst 0, 1) := by decide +kernel
theorem dX5_change_25 : decode cX5_change 25 = .ok (.bipush 50, 2) := by decide +kernel
theorem dX5_change_27 : decode cX5_change 27 = .ok (.invokestatic 110, 3) := by decide +kernel
theorem dX5_change_30 : decode cX5_change 30 = .ok (.ifCond .eq 22, 3) := by decide +kernel
theorem dX5_change_33 : decode cX5_change 33 = .ok (.iload 4, 2) := by decide +kernel
theorem dX5_change_35 : decode cX5_change 35 = .ok (.iconst 0, 1) := by decide +kernel
theorem dX5_change_36 : decode cX5_change 36 = .ok (.bipush 20, 2) := by decide +kernel
theorem dX5_change_38 : decode cX5_change 38 = .ok (.invokestatic 110, 3) := by decide +kernel
theorem dX5_change_41 : decode cX5_change 41 = .ok (.ifCond .eq 11, 3) := by decide +kernel
theorem dX5_change_44 : decode cX5_change 44 = .ok (.aload_n 0, 1) := by decide +kernel
theorem dX5_change_45 : decode cX5_change 45 = .ok (.iload_n 1, 1) := by decide +kernel
theorem dX5_change_46 : decode cX5_change 46 = .ok (.invokevirtual 124, 3) := by decide +kernel
theorem dX5_change_49 : decode cX5_change 49 = .ok (.ifCond .eq 5, 3) := by decide +kernel
theorem dX5_change_52 : decode cX5_change 52 = .ok (.iconst 0, 1) := by decide +kernel
theorem dX5_change_53 : decode cX5_change 53 = .ok (.ireturn, 1) := by decide +kernel
theorem dX5_change_54 : decode cX5_change 54 = .ok (.aload_n 0, 1) := by decide +kernel
theorem dX5_change_55 : decode cX5_change 55 = .ok (.getfield 9, 3) := by decide +kernel
theorem dX5_change_58 : decode cX5_change 58 = .ok (.iload_n 1, 1) := by decide +kernel
theorem dX5_change_59 : decode cX5_change 59 = .ok (.iload_n 2, 1) := by decide +kernel
theorem dX5_change_60 : decode cX5_change 60 = .ok (.iastore, 1) := by decide +kernel
theorem dX5_change_61 : decode cX5_change 61 = .ok (.aload_n 0, 1) := by decide +kernel
theorem dX5_change_62 : decode cX5_change 62 = .ok (.getfield 16, 3) := by decide +kernel
theorem dX5_change_65 : decode cX5_change 65 = .ok (.iload_n 1, 1) := by decide +kernel
theorem dX5_change_66 : decode cX5_change 66 = .ok (.iload_n 3, 1) := by decide +kernel
theorem dX5_change_67 : decode cX5_change 67 = .ok (.iastore, 1) := by decide +kernel
theorem dX5_change_68 : decode cX5_change 68 = .ok (.aload_n 0, 1) := by decide +kernel
theorem dX5_change_69 : decode cX5_change 69 = .ok (.getfield 19, 3) := by decide +kernel
theorem dX5_change_72 : decode cX5_change 72 = .ok (.iload_n 1, 1) := by decide +kernel
theorem dX5_change_73 : decode cX5_change 73 = .ok (.iload 4, 2) := by decide +kernel
theorem dX5_change_75 : decode cX5_change 75 = .ok (.iastore, 1) := by decide +kernel
theorem dX5_change_76 : decode cX5_change 76 = .ok (.aload_n 0, 1) := by decide +kernel
theorem dX5_change_77 : decode cX5_change 77 = .ok (.invokevirtual 118, 3) := by decide +kernel
theorem dX5_change_80 : decode cX5_change 80 = .ok (.iconst 1, 1) := by decide +kernel
theorem dX5_change_81 : decode cX5_change 81 = .ok (.ireturn, 1) := by decide +kernel
theorem dX5_snow_0 : decode cX5_snow 0 = .ok (.aload_n 0, 1) := by decide +kernel
theorem dX5_snow_1 : decode cX5_snow 1 = .ok (.iconst 0, 1) := by decide +kernel
theorem dX5_snow_2 : decode cX5_snow 2 = .ok (.putfield 101, 3) := by decide +kernel
theorem dX5_snow_5 : decode cX5_snow 5 = .ok (.aload_n 0, 1) := by decide +kernel
theorem dX5_snow_6 : decode cX5_snow 6 = .ok (.iload_n 1, 1) := by decide +kernel
theorem dX5_snow_7 : decode cX5_snow 7 = .ok (.invokevirtual 121, 3) := by decide +kernel
theorem dX5_snow_10 : decode cX5_snow 10 = .ok (.ifCond .eq 46, 3) := by decide +kernel
theorem dX5_snow_13 : decode cX5_snow 13 = .ok (.iload_n 2, 1) := by decide +kernel
theorem dX5_snow_14 : decode cX5_snow 14 = .ok (.aload_n 0, 1) := by decide +kernel
theorem dX5_snow_15 : decode cX5_snow 15 = .ok (.getfield 127, 3) := by decide +kernel
theorem dX5_snow_18 : decode cX5_snow 18 = .ok (.bipush 24, 2) := by decide +kernel
theorem dX5_snow_20 : decode cX5_snow 20 = .ok (.idiv, 1) := by decide +kernel
theorem dX5_snow_21 : decode cX5_snow 21 = .ok (.iconst 1, 1) := by decide +kernel
theorem dX5_snow_22 : decode cX5_snow 22 = .ok (.iadd, 1) := by decide +kernel
theorem dX5_snow_23 : decode cX5_snow 23 = .ok (.sipush 300, 3) := by decide +kernel
theorem dX5_snow_26 : decode cX5_snow 26 = .ok (.invokestatic 110, 3) := by decide +kernel
theorem dX5_snow_29 : decode cX5_snow 29 = .ok (.ifCond .eq 27, 3) := by decide +kernel
theorem dX5_snow_32 : decode cX5_snow 32 = .ok (.aload_n 0, 1) := by decide +kernel
theorem dX5_snow_33 : decode cX5_snow 33 = .ok (.getfield 34, 3) := by decide +kernel
theorem dX5_snow_36 : decode cX5_snow 36 = .ok (.sipush 301, 3) := by decide +kernel
theorem dX5_snow_39 : decode cX5_snow 39 = .ok (.iload_n 1, 1) := by decide +kernel
theorem dX5_snow_40 : decode cX5_snow 40 = .ok (.imul, 1) := by decide +kernel
theorem dX5_snow_41 : decode cX5_snow 41 = .ok (.iload_n 2, 1) := by decide +kernel
theorem dX5_snow_42 : decode cX5_snow 42 = .ok (.iadd, 1) := by decide +kernel
theorem dX5_snow_43 : decode cX5_snow 43 = .ok (.baload, 1) := by decide +kernel
theorem dX5_snow_44 : decode cX5_snow 44 = .ok (.ifCond .ne 12, 3) := by decide +kernel
theorem dX5_snow_47 : decode cX5_snow 47 = .ok (.aload_n 0, 1) := by decide +kernel
theorem dX5_snow_48 : decode cX5_snow 48 = .ok (.getfield 130, 3) := by decide +kernel
theorem dX5_snow_51 : decode cX5_snow 51 = .ok (.bipush 100, 2) := by decide +kernel
theorem dX5_snow_53 : decode cX5_snow 53 = .ok (.if_icmp .ne 5, 3) := by decide +kernel
theorem dX5_snow_56 : decode cX5_snow 56 = .ok (.iconst 0, 1) := by decide +kernel
theorem dX5_snow_57 : decode cX5_snow 57 = .ok (.ireturn, 1) := by decide +kernel
theorem dX5_snow_58 : decode cX5_snow 58 = .ok (.aload_n 0, 1) := by decide +kernel
theorem dX5_snow_59 : decode cX5_snow 59 = .ok (.getfield 34, 3) := by decide +kernel
theorem dX5_snow_62 : decode cX5_snow 62 = .ok (.sipush 301, 3) := by decide +kernel
theorem dX5_snow_65 : decode cX5_snow 65 = .ok (.iload_n 1, 1) := by decide +kernel
theorem dX5_snow_66 : decode cX5_snow 66 = .ok (.imul, 1) := by decide +kernel
theorem dX5_snow_67 : decode cX5_snow 67 = .ok (.iload_n 2, 1) := by decide +kernel
theorem dX5_snow_68 : decode cX5_snow 68 = .ok (.iadd, 1) := by decide +kernel
theorem dX5_snow_69 : decode cX5_snow 69 = .ok (.iconst 1, 1) := by decide +kernel
theorem dX5_snow_70 : decode cX5_snow 70 = .ok (.bastore, 1) := by decide +kernel
theorem dX5_snow_71 : decode cX5_snow 71 = .ok (.aload_n 0, 1) := by decide +kernel
theorem dX5_snow_72 : decode cX5_snow 72 = .ok (.dup, 1) := by decide +kernel
theorem dX5_snow_73 : decode cX5_snow 73 = .ok (.getfield 130, 3) := by decide +kernel
theorem dX5_snow_76 : decode cX5_snow 76 = .ok (.iconst 1, 1) := by decide +kernel
theorem dX5_snow_77 : decode cX5_snow 77 = .ok (.iadd, 1) := by decide +kernel
theorem dX5_snow_78 : decode cX5_snow 78 = .ok (.putfield 130, 3) := by decide +kernel
theorem dX5_snow_81 : decode cX5_snow 81 = .ok (.aload_n 0, 1) := by decide +kernel
theorem dX5_snow_82 : decode cX5_snow 82 = .ok (.invokevirtual 118, 3) := by decide +kernel
theorem dX5_snow_85 : decode cX5_snow 85 = .ok (.iconst 1, 1) := by decide +kernel
theorem dX5_snow_86 : decode cX5_snow 86 = .ok (.ireturn, 1) := by decide +kernel
theorem dX5_isRun_0 : decode cX5_isRun 0 = .ok (.aload_n 0, 1) := by decide +kernel
theorem dX5_isRun_1 : decode cX5_isRun 1 = .ok (.getfield 9, 3) := by decide +kernel
theorem dX5_isRun_4 : decode cX5_isRun 4 = .ok (.iload_n 1, 1) := by decide +kernel
theorem dX5_isRun_5 : decode cX5_isRun 5 = .ok (.iaload, 1) := by decide +kernel
theorem dX5_isRun_6 : decode cX5_isRun 6 = .ok (.iload_n 2, 1) := by decide +kernel
theorem dX5_isRun_7 : decode cX5_isRun 7 = .ok (.bipush 7, 2) := by decide +kernel
theorem dX5_isRun_9 : decode cX5_isRun 9 = .ok (.irem, 1) := by decide +kernel
theorem dX5_isRun_10 : decode cX5_isRun 10 = .ok (.ishr, 1) := by decide +kernel
theorem dX5_isRun_11 : decode cX5_isRun 11 = .ok (.iconst 1, 1) := by decide +kernel
theorem dX5_isRun_12 : decode cX5_isRun 12 = .ok (.iand, 1) := by decide +kernel
theorem dX5_isRun_13 : decode cX5_isRun 13 = .ok (.iconst 1, 1) := by decide +kernel
theorem dX5_isRun_14 : decode cX5_isRun 14 = .ok (.if_icmp .ne 22, 3) := by decide +kernel
theorem dX5_isRun_17 : decode cX5_isRun 17 = .ok (.aload_n 0, 1) := by decide +kernel
theorem dX5_isRun_18 : decode cX5_isRun 18 = .ok (.getfield 34, 3) := by decide +kernel
theorem dX5_isRun_21 : decode cX5_isRun 21 = .ok (.sipush 301, 3) := by decide +kernel
theorem dX5_isRun_24 : decode cX5_isRun 24 = .ok (.iload_n 1, 1) := by decide +kernel
theorem dX5_isRun_25 : decode cX5_isRun 25 = .ok (.imul, 1) := by decide +kernel
theorem dX5_isRun_26 : decode cX5_isRun 26 = .ok (.iload_n 2, 1) := by decide +kernel
theorem dX5_isRun_27 : decode cX5_isRun 27 = .ok (.iadd, 1) := by decide +kernel
theorem dX5_isRun_28 : decode cX5_isRun 28 = .ok (.baload, 1) := by decide +kernel
theorem dX5_isRun_29 : decode cX5_isRun 29 = .ok (.ifCond .ne 7, 3) := by decide +kernel
theorem dX5_isRun_32 : decode cX5_isRun 32 = .ok (.iconst 1, 1) := by decide +kernel
theorem dX5_isRun_33 : decode cX5_isRun 33 = .ok (.goto 4, 3) := by decide +kernel
theorem dX5_isRun_36 : decode cX5_isRun 36 = .ok (.iconst 0, 1) := by decide +kernel
theorem dX5_isRun_37 : decode cX5_isRun 37 = .ok (.ireturn, 1) := by decide +kernel
theorem dX5_runs_0 : decode cX5_runs 0 = .ok (.aload_n 0, 1) := by decide +kernel
theorem dX5_runs_1 : decode cX5_runs 1 = .ok (.iconst 0, 1) := by decide +kernel
theorem dX5_runs_2 : decode cX5_runs 2 = .ok (.putfield 101, 3) := by decide +kernel
theorem dX5_runs_5 : decode cX5_runs 5 = .ok (.aload_n 0, 1) := by decide +kernel
theorem dX5_runs_6 : decode cX5_runs 6 = .ok (.iload_n 1, 1) := by decide +kernel
theorem dX5_runs_7 : decode cX5_runs 7 = .ok (.invokevirtual 121, 3) := by decide +kernel
theorem dX5_runs_10 : decode cX5_runs 10 = .ok (.ifCond .eq 31, 3) := by decide +kernel
theorem dX5_runs_13 : decode cX5_runs 13 = .ok (.iload_n 2, 1) := by decide +kernel
theorem dX5_runs_14 : decode cX5_runs 14 = .ok (.iconst 0, 1) := by decide +kernel
theorem dX5_runs_15 : decode cX5_runs 15 = .ok (.sipush 300, 3) := by decide +kernel
theorem dX5_runs_18 : decode cX5_runs 18 = .ok (.invokestatic 110, 3) := by decide +kernel
theorem dX5_runs_21 : decode cX5_runs 21 = .ok (.ifCond .eq 20, 3) := by decide +kernel
theorem dX5_runs_24 : decode cX5_runs 24 = .ok (.aload_n 0, 1) := by decide +kernel
theorem dX5_runs_25 : decode cX5_runs 25 = .ok (.iload_n 1, 1) := by decide +kernel
theorem dX5_runs_26 : decode cX5_runs 26 = .ok (.iload_n 2, 1) := by decide +kernel
theorem dX5_runs_27 : decode cX5_runs 27 = .ok (.invokevirtual 133, 3) := by decide +kernel
theorem dX5_runs_30 : decode cX5_runs 30 = .ok (.ifCond .eq 7, 3) := by decide +kernel
theorem dX5_runs_33 : decode cX5_runs 33 = .ok (.iconst 1, 1) := by decide +kernel
theorem dX5_runs_34 : decode cX5_runs 34 = .ok (.goto 8, 3) := by decide +kernel
theorem dX5_runs_37 : decode cX5_runs 37 = .ok (.iconst 0, 1) := by decide +kernel
theorem dX5_runs_38 : decode cX5_runs 38 = .ok (.goto 4, 3) := by decide +kernel
theorem dX5_runs_41 : decode cX5_runs 41 = .ok (.iconst (-1), 1) := by decide +kernel
theorem dX5_runs_42 : decode cX5_runs 42 = .ok (.ireturn, 1) := by decide +kernel
theorem dX5_hourOf_0 : decode cX5_hourOf 0 = .ok (.bipush 24, 2) := by decide +kernel
theorem dX5_hourOf_2 : decode cX5_hourOf 2 = .ok (.iload_n 2, 1) := by decide +kernel
theorem dX5_hourOf_3 : decode cX5_hourOf 3 = .ok (.imul, 1) := by decide +kernel
theorem dX5_hourOf_4 : decode cX5_hourOf 4 = .ok (.aload_n 0, 1) := by decide +kernel
theorem dX5_hourOf_5 : decode cX5_hourOf 5 = .ok (.getfield 13, 3) := by decide +kernel
theorem dX5_hourOf_8 : decode cX5_hourOf 8 = .ok (.iload_n 1, 1) := by decide +kernel
theorem dX5_hourOf_9 : decode cX5_hourOf 9 = .ok (.iaload, 1) := by decide +kernel
theorem dX5_hourOf_10 : decode cX5_hourOf 10 = .ok (.iadd, 1) := by decide +kernel
theorem dX5_hourOf_11 : decode cX5_hourOf 11 = .ok (.aload_n 0, 1) := by decide +kernel
theorem dX5_hourOf_12 : decode cX5_hourOf 12 = .ok (.getfield 31, 3) := by decide +kernel
theorem dX5_hourOf_15 : decode cX5_hourOf 15 = .ok (.bipush 6, 2) := by decide +kernel
theorem dX5_hourOf_17 : decode cX5_hourOf 17 = .ok (.iload_n 1, 1) := by decide +kernel
theorem dX5_hourOf_18 : decode cX5_hourOf 18 = .ok (.imul, 1) := by decide +kernel
theorem dX5_hourOf_19 : decode cX5_hourOf 19 = .ok (.iload_n 3, 1) := by decide +kernel
theorem dX5_hourOf_20 : decode cX5_hourOf 20 = .ok (.iadd, 1) := by decide +kernel
theorem dX5_hourOf_21 : decode cX5_hourOf 21 = .ok (.iaload, 1) := by decide +kernel
theorem dX5_hourOf_22 : decode cX5_hourOf 22 = .ok (.iadd, 1) := by decide +kernel
theorem dX5_hourOf_23 : decode cX5_hourOf 23 = .ok (.ireturn, 1) := by decide +kernel
theorem dX5_forget_0 : decode cX5_forget 0 = .ok (.aload_n 0, 1) := by decide +kernel
theorem dX5_forget_1 : decode cX5_forget 1 = .ok (.dup, 1) := by decide +kernel
theorem dX5_forget_2 : decode cX5_forget 2 = .ok (.getfield 49, 3) := by decide +kernel
theorem dX5_forget_5 : decode cX5_forget 5 = .ok (.iconst 1, 1) := by decide +kernel
theorem dX5_forget_6 : decode cX5_forget 6 = .ok (.iadd, 1) := by decide +kernel
theorem dX5_forget_7 : decode cX5_forget 7 = .ok (.putfield 49, 3) := by decide +kernel
theorem dX5_forget_10 : decode cX5_forget 10 = .ok (.return_, 1) := by decide +kernel
theorem dX5_find_0 : decode cX5_find 0 = .ok (.iconst 0, 1) := by decide +kernel
theorem dX5_find_1 : decode cX5_find 1 = .ok (.istore 4, 2) := by decide +kernel
theorem dX5_find_3 : decode cX5_find 3 = .ok (.iload 4, 2) := by decide +kernel
theorem dX5_find_5 : decode cX5_find 5 = .ok (.bipush 12, 2) := by decide +kernel
theorem dX5_find_7 : decode cX5_find 7 = .ok (.if_icmp .ge 28, 3) := by decide +kernel
theorem dX5_find_10 : decode cX5_find 10 = .ok (.aload_n 0, 1) := by decide +kernel
theorem dX5_find_11 : decode cX5_find 11 = .ok (.getfield 46, 3) := by decide +kernel
theorem dX5_find_14 : decode cX5_find 14 = .ok (.iload 4, 2) := by decide +kernel
theorem dX5_find_16 : decode cX5_find 16 = .ok (.iload 4, 2) := by decide +kernel
theorem dX5_find_18 : decode cX5_find 18 = .ok (.iload_n 1, 1) := by decide +kernel
theorem dX5_find_19 : decode cX5_find 19 = .ok (.if_icmp .ne 7, 3) := by decide +kernel
theorem dX5_find_22 : decode cX5_find 22 = .ok (.iload_n 2, 1) := by decide +kernel
theorem dX5_find_23 : decode cX5_find 23 = .ok (.goto 5, 3) := by decide +kernel
theorem dX5_find_26 : decode cX5_find 26 = .ok (.ldc 137, 2) := by decide +kernel
theorem dX5_find_28 : decode cX5_find 28 = .ok (.iastore, 1) := by decide +kernel
theorem dX5_find_29 : decode cX5_find 29 = .ok (.iinc 4 1, 3) := by decide +kernel
theorem dX5_find_32 : decode cX5_find 32 = .ok (.goto (-29), 3) := by decide +kernel
theorem dX5_find_35 : decode cX5_find 35 = .ok (.iconst 1, 1) := by decide +kernel
theorem dX5_find_36 : decode cX5_find 36 = .ok (.istore 4, 2) := by decide +kernel
theorem dX5_find_38 : decode cX5_find 38 = .ok (.iload 4, 2) := by decide +kernel
theorem dX5_find_40 : decode cX5_find 40 = .ok (.ifCond .eq 203, 3) := by decide +kernel
theorem dX5_find_43 : decode cX5_find 43 = .ok (.iconst 0, 1) := by decide +kernel
theorem dX5_find_44 : decode cX5_find 44 = .ok (.istore 4, 2) := by decide +kernel
theorem dX5_find_46 : decode cX5_find 46 = .ok (.iconst 0, 1) := by decide +kernel
theorem dX5_find_47 : decode cX5_find 47 = .ok (.istore 5, 2) := by decide +kernel
theorem dX5_find_49 : decode cX5_find 49 = .ok (.iload 5, 2) := by decide +kernel
theorem dX5_find_51 : decode cX5_find 51 = .ok (.aload_n 0, 1) := by decide +kernel
theorem dX5_find_52 : decode cX5_find 52 = .ok (.getfield 104, 3) := by decide +kernel
theorem dX5_find_55 : decode cX5_find 55 = .ok (.if_icmp .ge 185, 3) := by decide +kernel
theorem dX5_find_58 : decode cX5_find 58 = .ok (.iload 5, 2) := by decide +kernel
theorem dX5_find_60 : decode cX5_find 60 = .ok (.iload_n 3, 1) := by decide +kernel
theorem dX5_find_61 : decode cX5_find 61 = .ok (.if_icmp .ne 6, 3) := by decide +kernel
theorem dX5_find_64 : decode cX5_find 64 = .ok (.goto 170, 3) := by decide +kernel
theorem dX5_find_67 : decode cX5_find 67 = .ok (.iconst 0, 1) := by decide +kernel
theorem dX5_find_68 : decode cX5_find 68 = .ok (.iload_n 2, 1) := by decide +kernel
theorem dX5_find_69 : decode cX5_find 69 = .ok (.bipush 24, 2) := by decide +kernel
theorem dX5_find_71 : decode cX5_find 71 = .ok (.idiv, 1) := by decide +kernel
theorem dX5_find_72 : decode cX5_find 72 = .ok (.iconst 4, 1) := by decide +kernel
theorem dX5_find_73 : decode cX5_find 73 = .ok (.isub, 1) := by decide +kernel
theorem dX5_find_74 : decode cX5_find 74 = .ok (.invokestatic 138, 3) := by decide +kernel
theorem dX5_find_77 : decode cX5_find 77 = .ok (.istore 6, 2) := by decide +kernel
theorem dX5_find_79 : decode cX5_find 79 = .ok (.bipush 24, 2) := by decide +kernel
theorem dX5_find_81 : decode cX5_find 81 = .ok (.iload 6, 2) := by decide +kernel
theorem dX5_find_83 : decode cX5_find 83 = .ok (.imul, 1) := by decide +kernel
theorem dX5_find_84 : decode cX5_find 84 = .ok (.iload_n 2, 1) := by decide +kernel
theorem dX5_find_85 : decode cX5_find 85 = .ok (.sipush 336, 3) := by decide +kernel
theorem dX5_find_88 : decode cX5_find 88 = .ok (.iadd, 1) := by decide +kernel
theorem dX5_find_89 : decode cX5_find 89 = .ok (.if_icmp .gt 145, 3) := by decide +kernel
theorem dX5_find_92 : decode cX5_find 92 = .ok (.iload 6, 2) := by decide +kernel
theorem dX5_find_94 : decode cX5_find 94 = .ok (.sipush 300, 3) := by decide +kernel
theorem dX5_find_97 : decode cX5_find 97 = .ok (.if_icmp .gt 137, 3) := by decide +kernel
theorem dX5_find_100 : decode cX5_find 100 = .ok (.aload_n 0, 1) := by decide +kernel
theorem dX5_find_101 : decode cX5_find 101 = .ok (.iload 5, 2) := by decide +kernel
theorem dX5_find_103 : decode cX5_find 103 = .ok (.iload 6, 2) := by decide +kernel
theorem dX5_find_105 : decode cX5_find 105 = .ok (.invokevirtual 133, 3) := by decide +kernel
theorem dX5_find_108 : decode cX5_find 108 = .ok (.ifCond .ne 6, 3) := by decide +kernel
theorem dX5_find_111 : decode cX5_find 111 = .ok (.goto 117, 3) := by decide +kernel
theorem dX5_find_114 : decode cX5_find 114 = .ok (.iconst 0, 1) := by decide +kernel
theorem dX5_find_115 : decode cX5_find 115 = .ok (.istore 7, 2) := by decide +kernel
theorem dX5_find_117 : decode cX5_find 117 = .ok (.iconst 0, 1) := by decide +kernel
theorem dX5_find_118 : decode cX5_find 118 = .ok (.istore 8, 2) := by decide +kernel
theorem dX5_find_120 : decode cX5_find 120 = .ok (.iload 8, 2) := by decide +kernel
theorem dX5_find_122 : decode cX5_find 122 = .ok (.aload_n 0, 1) := by decide +kernel
theorem dX5_find_123 : decode cX5_find 123 = .ok (.getfield 22, 3) := by decide +kernel
theorem dX5_find_126 : decode cX5_find 126 = .ok (.iload 5, 2) := by decide +kernel
theorem dX5_find_128 : decode cX5_find 128 = .ok (.iaload, 1) := by decide +kernel
theorem dX5_find_129 : decode cX5_find 129 = .ok (.if_icmp .ge 99, 3) := by decide +kernel
theorem dX5_find_132 : decode cX5_find 132 = .ok (.aload_n 0, 1) := by decide +kernel
theorem dX5_find_133 : decode cX5_find 133 = .ok (.iload 5, 2) := by decide +kernel
theorem dX5_find_135 : decode cX5_find 135 = .ok (.iload 6, 2) := by decide +kernel
theorem dX5_find_137 : decode cX5_find 137 = .ok (.iload 8, 2) := by decide +kernel
theorem dX5_find_139 : decode cX5_find 139 = .ok (.invokevirtual 144, 3) := by decide +kernel
theorem dX5_find_142 : decode cX5_find 142 = .ok (.istore 9, 2) := by decide +kernel
theorem dX5_find_144 : decode cX5_find 144 = .ok (.aload_n 0, 1) := by decide +kernel
theorem dX5_find_145 : decode cX5_find 145 = .ok (.getfield 28, 3) := by decide +kernel
theorem dX5_find_148 : decode cX5_find 148 = .ok (.bipush 6, 2) := by decide +kernel
theorem dX5_find_150 : decode cX5_find 150 = .ok (.iload 5, 2) := by decide +kernel
theorem dX5_find_152 : decode cX5_find 152 = .ok (.imul, 1) := by decide +kernel
theorem dX5_find_153 : decode cX5_find 153 = .ok (.iload 8, 2) := by decide +kernel
theorem dX5_find_155 : decode cX5_find 155 = .ok (.iadd, 1) := by decide +kernel
theorem dX5_find_156 : decode cX5_find 156 = .ok (.iaload, 1) := by decide +kernel
theorem dX5_find_157 : decode cX5_find 157 = .ok (.istore 10, 2) := by decide +kernel
theorem dX5_find_159 : decode cX5_find 159 = .ok (.iload 7, 2) := by decide +kernel
theorem dX5_find_161 : decode cX5_find 161 = .ok (.ifCond .eq 37, 3) := by decide +kernel
theorem dX5_find_164 : decode cX5_find 164 = .ok (.iload 9, 2) := by decide +kernel
theorem dX5_find_166 : decode cX5_find 166 = .ok (.iload_n 2, 1) := by decide +kernel
theorem dX5_find_167 : decode cX5_find 167 = .ok (.sipush 336, 3) := by decide +kernel
theorem dX5_find_170 : decode cX5_find 170 = .ok (.iadd, 1) := by decide +kernel
theorem dX5_find_171 : decode cX5_find 171 = .ok (.if_icmp .gt 27, 3) := by decide +kernel
theorem dX5_find_174 : decode cX5_find 174 = .ok (.iload 9, 2) := by decide +kernel
theorem dX5_find_176 : decode cX5_find 176 = .ok (.aload_n 0, 1) := by decide +kernel
theorem dX5_find_177 : decode cX5_find 177 = .ok (.getfield 46, 3) := by decide +kernel
theorem dX5_find_180 : decode cX5_find 180 = .ok (.iload 10, 2) := by decide +kernel
theorem dX5_find_182 : decode cX5_find 182 = .ok (.iaload, 1) := by decide +kernel
theorem dX5_find_183 : decode cX5_find 183 = .ok (.if_icmp .ge 15, 3) := by decide +kernel
theorem dX5_find_186 : decode cX5_find 186 = .ok (.aload_n 0, 1) := by decide +kernel
theorem dX5_find_187 : decode cX5_find 187 = .ok (.getfield 46, 3) := by decide +kernel
theorem dX5_find_190 : decode cX5_find 190 = .ok (.iload 10, 2) := by decide +kernel
theorem dX5_find_192 : decode cX5_find 192 = .ok (.iload 9, 2) := by decide +kernel
theorem dX5_find_194 : decode cX5_find 194 = .ok (.iastore, 1) := by decide +kernel
theorem dX5_find_195 : decode cX5_find 195 = .ok (.iconst 1, 1) := by decide +kernel
theorem dX5_find_196 : decode cX5_find 196 = .ok (.istore 4, 2) := by decide +kernel
theorem dX5_find_198 : decode cX5_find 198 = .ok (.iload 7, 2) := by decide +kernel
theorem dX5_find_200 : decode cX5_find 200 = .ok (.ifCond .ne 15, 3) := by decide +kernel
theorem dX5_find_203 : decode cX5_find 203 = .ok (.iload 9, 2) := by decide +kernel
theorem dX5_find_205 : decode cX5_find 205 = .ok (.aload_n 0, 1) := by decide +kernel
theorem dX5_find_206 : decode cX5_find 206 = .ok (.getfield 46, 3) := by decide +kernel
theorem dX5_find_209 : decode cX5_find 209 = .ok (.iload 10, 2) := by decide +kernel
theorem dX5_find_211 : decode cX5_find 211 = .ok (.iaload, 1) := by decide +kernel
theorem dX5_find_212 : decode cX5_find 212 = .ok (.if_icmp .lt 7, 3) := by decide +kernel
theorem dX5_find_215 : decode cX5_find 215 = .ok (.iconst 1, 1) := by decide +kernel
theorem dX5_find_216 : decode cX5_find 216 = .ok (.goto 4, 3) := by decide +kernel
theorem dX5_find_219 : decode cX5_find 219 = .ok (.iconst 0, 1) := by decide +kernel
theorem dX5_find_220 : decode cX5_find 220 = .ok (.istore 7, 2) := by decide +kernel
theorem dX5_find_222 : decode cX5_find 222 = .ok (.iinc 8 1, 3) := by decide +kernel
theorem dX5_find_225 : decode cX5_find 225 = .ok (.goto (-105), 3) := by decide +kernel
theorem dX5_find_228 : decode cX5_find 228 = .ok (.iinc 6 1, 3) := by decide +kernel
theorem dX5_find_231 : decode cX5_find 231 = .ok (.goto (-152), 3) := by decide +kernel
theorem dX5_find_234 : decode cX5_find 234 = .ok (.iinc 5 1, 3) := by decide +kernel
theorem dX5_find_237 : decode cX5_find 237 = .ok (.goto (-188), 3) := by decide +kernel
theorem dX5_find_240 : decode cX5_find 240 = .ok (.goto (-202), 3) := by decide +kernel
theorem dX5_find_243 : decode cX5_find 243 = .ok (.return_, 1) := by decide +kernel
theorem dX5_soonOf_0 : decode cX5_soonOf 0 = .ok (.sipush 6400, 3) := by decide +kernel
theorem dX5_soonOf_3 : decode cX5_soonOf 3 = .ok (.iload_n 1, 1) := by decide +kernel
theorem dX5_soonOf_4 : decode cX5_soonOf 4 = .ok (.imul, 1) := by decide +kernel
theorem dX5_soonOf_5 : decode cX5_soonOf 5 = .ok (.iload_n 2, 1) := by decide +kernel
theorem dX5_soonOf_6 : decode cX5_soonOf 6 = .ok (.iadd, 1) := by decide +kernel
theorem dX5_soonOf_7 : decode cX5_soonOf 7 = .ok (.istore 4, 2) := by decide +kernel
theorem dX5_soonOf_9 : decode cX5_soonOf 9 = .ok (.aload_n 0, 1) := by decide +kernel
theorem dX5_soonOf_10 : decode cX5_soonOf 10 = .ok (.getfield 43, 3) := by decide +kernel
theorem dX5_soonOf_13 : decode cX5_soonOf 13 = .ok (.iload 4, 2) := by decide +kernel
theorem dX5_soonOf_15 : decode cX5_soonOf 15 = .ok (.iaload, 1) := by decide +kernel
theorem dX5_soonOf_16 : decode cX5_soonOf 16 = .ok (.aload_n 0, 1) := by decide +kernel
theorem dX5_soonOf_17 : decode cX5_soonOf 17 = .ok (.getfield 49, 3) := by decide +kernel
theorem dX5_soonOf_20 : decode cX5_soonOf 20 = .ok (.if_icmp .eq 57, 3) := by decide +kernel
theorem dX5_soonOf_23 : decode cX5_soonOf 23 = .ok (.aload_n 0, 1) := by decide +kernel
theorem dX5_soonOf_24 : decode cX5_soonOf 24 = .ok (.iload_n 1, 1) := by decide +kernel
theorem dX5_soonOf_25 : decode cX5_soonOf 25 = .ok (.iload_n 2, 1) := by decide +kernel
theorem dX5_soonOf_26 : decode cX5_soonOf 26 = .ok (.iconst (-1), 1) := by decide +kernel
theorem dX5_soonOf_27 : decode cX5_soonOf 27 = .ok (.invokevirtual 148, 3) := by decide +kernel
theorem dX5_soonOf_30 : decode cX5_soonOf 30 = .ok (.iconst 0, 1) := by decide +kernel
theorem dX5_soonOf_31 : decode cX5_soonOf 31 = .ok (.istore 5, 2) := by decide +kernel
theorem dX5_soonOf_33 : decode cX5_soonOf 33 = .ok (.iload 5, 2) := by decide +kernel
theorem dX5_soonOf_35 : decode cX5_soonOf 35 = .ok (.bipush 12, 2) := by decide +kernel
theorem dX5_soonOf_37 : decode cX5_soonOf 37 = .ok (.if_icmp .ge 29, 3) := by decide +kernel
theorem dX5_soonOf_40 : decode cX5_soonOf 40 = .ok (.aload_n 0, 1) := by decide +kernel
theorem dX5_soonOf_41 : decode cX5_soonOf 41 = .ok (.getfield 39, 3) := by decide +kernel
theorem dX5_soonOf_44 : decode cX5_soonOf 44 = .ok (.bipush 12, 2) := by decide +kernel
theorem dX5_soonOf_46 : decode cX5_soonOf 46 = .ok (.iload 4, 2) := by decide +kernel
theorem dX5_soonOf_48 : decode cX5_soonOf 48 = .ok (.imul, 1) := by decide +kernel
theorem dX5_soonOf_49 : decode cX5_soonOf 49 = .ok (.iload 5, 2) := by decide +kernel
theorem dX5_soonOf_51 : decode cX5_soonOf 51 = .ok (.iadd, 1) := by decide +kernel
theorem dX5_soonOf_52 : decode cX5_soonOf 52 = .ok (.aload_n 0, 1) := by decide +kernel
theorem dX5_soonOf_53 : decode cX5_soonOf 53 = .ok (.getfield 46, 3) := by decide +kernel
theorem dX5_soonOf_56 : decode cX5_soonOf 56 = .ok (.iload 5, 2) := by decide +kernel
theorem dX5_soonOf_58 : decode cX5_soonOf 58 = .ok (.iaload, 1) := by decide +kernel
theorem dX5_soonOf_59 : decode cX5_soonOf 59 = .ok (.iastore, 1) := by decide +kernel
theorem dX5_soonOf_60 : decode cX5_soonOf 60 = .ok (.iinc 5 1, 3) := by decide +kernel
theorem dX5_soonOf_63 : decode cX5_soonOf 63 = .ok (.goto (-30), 3) := by decide +kernel
theorem dX5_soonOf_66 : decode cX5_soonOf 66 = .ok (.aload_n 0, 1) := by decide +kernel
theorem dX5_soonOf_67 : decode cX5_soonOf 67 = .ok (.getfield 43, 3) := by decide +kernel
theorem dX5_soonOf_70 : decode cX5_soonOf 70 = .ok (.iload 4, 2) := by decide +kernel
theorem dX5_soonOf_72 : decode cX5_soonOf 72 = .ok (.aload_n 0, 1) := by decide +kernel
theorem dX5_soonOf_73 : decode cX5_soonOf 73 = .ok (.getfield 49, 3) := by decide +kernel
theorem dX5_soonOf_76 : decode cX5_soonOf 76 = .ok (.iastore, 1) := by decide +kernel
theorem dX5_soonOf_77 : decode cX5_soonOf 77 = .ok (.aload_n 0, 1) := by decide +kernel
theorem dX5_soonOf_78 : decode cX5_soonOf 78 = .ok (.getfield 39, 3) := by decide +kernel
theorem dX5_soonOf_81 : decode cX5_soonOf 81 = .ok (.bipush 12, 2) := by decide +kernel
theorem dX5_soonOf_83 : decode cX5_soonOf 83 = .ok (.iload 4, 2) := by decide +kernel
theorem dX5_soonOf_85 : decode cX5_soonOf 85 = .ok (.imul, 1) := by decide +kernel
theorem dX5_soonOf_86 : decode cX5_soonOf 86 = .ok (.iload_n 3, 1) := by decide +kernel
theorem dX5_soonOf_87 : decode cX5_soonOf 87 = .ok (.iadd, 1) := by decide +kernel
theorem dX5_soonOf_88 : decode cX5_soonOf 88 = .ok (.iaload, 1) := by decide +kernel
theorem dX5_soonOf_89 : decode cX5_soonOf 89 = .ok (.ireturn, 1) := by decide +kernel
theorem dX5_isHour_0 : decode cX5_isHour 0 = .ok (.iload_n 0, 1) := by decide +kernel
theorem dX5_isHour_1 : decode cX5_isHour 1 = .ok (.iconst 0, 1) := by decide +kernel
theorem dX5_isHour_2 : decode cX5_isHour 2 = .ok (.sipush 6000, 3) := by decide +kernel
theorem dX5_isHour_5 : decode cX5_isHour 5 = .ok (.invokestatic 110, 3) := by decide +kernel
theorem dX5_isHour_8 : decode cX5_isHour 8 = .ok (.ireturn, 1) := by decide +kernel
theorem dX5_soon_0 : decode cX5_soon 0 = .ok (.aload_n 0, 1) := by decide +kernel
theorem dX5_soon_1 : decode cX5_soon 1 = .ok (.iconst 0, 1) := by decide +kernel
theorem dX5_soon_2 : decode cX5_soon 2 = .ok (.putfield 101, 3) := by decide +kernel
theorem dX5_soon_5 : decode cX5_soon 5 = .ok (.iload_n 1, 1) := by decide +kernel
theorem dX5_soon_6 : decode cX5_soon 6 = .ok (.invokestatic 114, 3) := by decide +kernel
theorem dX5_soon_9 : decode cX5_soon 9 = .ok (.ifCond .eq 17, 3) := by decide +kernel
theorem dX5_soon_12 : decode cX5_soon 12 = .ok (.iload_n 2, 1) := by decide +kernel
theorem dX5_soon_13 : decode cX5_soon 13 = .ok (.invokestatic 152, 3) := by decide +kernel
theorem dX5_soon_16 : decode cX5_soon 16 = .ok (.ifCond .eq 10, 3) := by decide +kernel
theorem dX5_soon_19 : decode cX5_soon 19 = .ok (.iload_n 3, 1) := by decide +kernel
theorem dX5_soon_20 : decode cX5_soon 20 = .ok (.invokestatic 114, 3) := by decide +kernel
theorem dX5_soon_23 : decode cX5_soon 23 = .ok (.ifCond .ne 5, 3) := by decide +kernel
theorem dX5_soon_26 : decode cX5_soon 26 = .ok (.iconst (-1), 1) := by decide +kernel
theorem dX5_soon_27 : decode cX5_soon 27 = .ok (.ireturn, 1) := by decide +kernel
theorem dX5_soon_28 : decode cX5_soon 28 = .ok (.aload_n 0, 1) := by decide +kernel
theorem dX5_soon_29 : decode cX5_soon 29 = .ok (.iload_n 1, 1) := by decide +kernel
theorem dX5_soon_30 : decode cX5_soon 30 = .ok (.iload_n 2, 1) := by decide +kernel
theorem dX5_soon_31 : decode cX5_soon 31 = .ok (.iload_n 3, 1) := by decide +kernel
theorem dX5_soon_32 : decode cX5_soon 32 = .ok (.invokevirtual 155, 3) := by decide +kernel
theorem dX5_soon_35 : decode cX5_soon 35 = .ok (.istore 4, 2) := by decide +kernel
theorem dX5_soon_37 : decode cX5_soon 37 = .ok (.iload 4, 2) := by decide +kernel
theorem dX5_soon_39 : decode cX5_soon 39 = .ok (.ldc 137, 2) := by decide +kernel
theorem dX5_soon_41 : decode cX5_soon 41 = .ok (.if_icmp .ne 7, 3) := by decide +kernel
theorem dX5_soon_44 : decode cX5_soon 44 = .ok (.iconst (-1), 1) := by decide +kernel
theorem dX5_soon_45 : decode cX5_soon 45 = .ok (.goto 5, 3) := by decide +kernel
theorem dX5_soon_48 : decode cX5_soon 48 = .ok (.iload 4, 2) := by decide +kernel
theorem dX5_soon_50 : decode cX5_soon 50 = .ok (.ireturn, 1) := by decide +kernel
theorem dX5_reach_0 : decode cX5_reach 0 = .ok (.aload_n 0, 1) := by decide +kernel
theorem dX5_reach_1 : decode cX5_reach 1 = .ok (.iconst 0, 1) := by decide +kernel
theorem dX5_reach_2 : decode cX5_reach 2 = .ok (.putfield 101, 3) := by decide +kernel
theorem dX5_reach_5 : decode cX5_reach 5 = .ok (.iload_n 1, 1) := by decide +kernel
theorem dX5_reach_6 : decode cX5_reach 6 = .ok (.invokestatic 114, 3) := by decide +kernel
theorem dX5_reach_9 : decode cX5_reach 9 = .ok (.ifCond .eq 22, 3) := by decide +kernel
theorem dX5_reach_12 : decode cX5_reach 12 = .ok (.iload_n 2, 1) := by decide +kernel
theorem dX5_reach_13 : decode cX5_reach 13 = .ok (.invokestatic 152, 3) := by decide +kernel
theorem dX5_reach_16 : decode cX5_reach 16 = .ok (.ifCond .eq 15, 3) := by decide +kernel
theorem dX5_reach_19 : decode cX5_reach 19 = .ok (.iload_n 3, 1) := by decide +kernel
theorem dX5_reach_20 : decode cX5_reach 20 = .ok (.invokestatic 152, 3) := by decide +kernel
theorem dX5_reach_23 : decode cX5_reach 23 = .ok (.ifCond .eq 8, 3) := by decide +kernel
theorem dX5_reach_26 : decode cX5_reach 26 = .ok (.iload_n 3, 1) := by decide +kernel
theorem dX5_reach_27 : decode cX5_reach 27 = .ok (.iload_n 2, 1) := by decide +kernel
theorem dX5_reach_28 : decode cX5_reach 28 = .ok (.if_icmp .ge 5, 3) := by decide +kernel
theorem dX5_reach_31 : decode cX5_reach 31 = .ok (.iconst (-1), 1) := by decide +kernel
theorem dX5_reach_32 : decode cX5_reach 32 = .ok (.ireturn, 1) := by decide +kernel
theorem dX5_reach_33 : decode cX5_reach 33 = .ok (.iconst 0, 1) := by decide +kernel
theorem dX5_reach_34 : decode cX5_reach 34 = .ok (.istore 4, 2) := by decide +kernel
theorem dX5_reach_36 : decode cX5_reach 36 = .ok (.iconst 0, 1) := by decide +kernel
theorem dX5_reach_37 : decode cX5_reach 37 = .ok (.istore 5, 2) := by decide +kernel
theorem dX5_reach_39 : decode cX5_reach 39 = .ok (.iload 5, 2) := by decide +kernel
theorem dX5_reach_41 : decode cX5_reach 41 = .ok (.bipush 12, 2) := by decide +kernel
theorem dX5_reach_43 : decode cX5_reach 43 = .ok (.if_icmp .ge 30, 3) := by decide +kernel
theorem dX5_reach_46 : decode cX5_reach 46 = .ok (.aload_n 0, 1) := by decide +kernel
theorem dX5_reach_47 : decode cX5_reach 47 = .ok (.iload_n 1, 1) := by decide +kernel
theorem dX5_reach_48 : decode cX5_reach 48 = .ok (.iload_n 2, 1) := by decide +kernel
theorem dX5_reach_49 : decode cX5_reach 49 = .ok (.iload 5, 2) := by decide +kernel
theorem dX5_reach_51 : decode cX5_reach 51 = .ok (.invokevirtual 155, 3) := by decide +kernel
theorem dX5_reach_54 : decode cX5_reach 54 = .ok (.iload_n 3, 1) := by decide +kernel
theorem dX5_reach_55 : decode cX5_reach 55 = .ok (.if_icmp .gt 12, 3) := by decide +kernel
theorem dX5_reach_58 : decode cX5_reach 58 = .ok (.iload 4, 2) := by decide +kernel
theorem dX5_reach_60 : decode cX5_reach 60 = .ok (.iconst 1, 1) := by decide +kernel
theorem dX5_reach_61 : decode cX5_reach 61 = .ok (.iload 5, 2) := by decide +kernel
theorem dX5_reach_63 : decode cX5_reach 63 = .ok (.ishl, 1) := by decide +kernel
theorem dX5_reach_64 : decode cX5_reach 64 = .ok (.ior, 1) := by decide +kernel
theorem dX5_reach_65 : decode cX5_reach 65 = .ok (.istore 4, 2) := by decide +kernel
theorem dX5_reach_67 : decode cX5_reach 67 = .ok (.iinc 5 1, 3) := by decide +kernel
theorem dX5_reach_70 : decode cX5_reach 70 = .ok (.goto (-31), 3) := by decide +kernel
theorem dX5_reach_73 : decode cX5_reach 73 = .ok (.iload 4, 2) := by decide +kernel
theorem dX5_reach_75 : decode cX5_reach 75 = .ok (.ireturn, 1) := by decide +kernel
theorem dX5_cut_0 : decode cX5_cut 0 = .ok (.aload_n 0, 1) := by decide +kernel
theorem dX5_cut_1 : decode cX5_cut 1 = .ok (.iconst 0, 1) := by decide +kernel
theorem dX5_cut_2 : decode cX5_cut 2 = .ok (.putfield 101, 3) := by decide +kernel
theorem dX5_cut_5 : decode cX5_cut 5 = .ok (.aload_n 0, 1) := by decide +kernel
theorem dX5_cut_6 : decode cX5_cut 6 = .ok (.iload_n 1, 1) := by decide +kernel
theorem dX5_cut_7 : decode cX5_cut 7 = .ok (.invokevirtual 121, 3) := by decide +kernel
theorem dX5_cut_10 : decode cX5_cut 10 = .ok (.ifCond .eq 17, 3) := by decide +kernel
theorem dX5_cut_13 : decode cX5_cut 13 = .ok (.iload_n 2, 1) := by decide +kernel
theorem dX5_cut_14 : decode cX5_cut 14 = .ok (.invokestatic 152, 3) := by decide +kernel
theorem dX5_cut_17 : decode cX5_cut 17 = .ok (.ifCond .eq 10, 3) := by decide +kernel
theorem dX5_cut_20 : decode cX5_cut 20 = .ok (.iload_n 3, 1) := by decide +kernel
theorem dX5_cut_21 : decode cX5_cut 21 = .ok (.invokestatic 114, 3) := by decide +kernel
theorem dX5_cut_24 : decode cX5_cut 24 = .ok (.ifCond .ne 5, 3) := by decide +kernel
theorem dX5_cut_27 : decode cX5_cut 27 = .ok (.iconst (-1), 1) := by decide +kernel
theorem dX5_cut_28 : decode cX5_cut 28 = .ok (.ireturn, 1) := by decide +kernel
theorem dX5_cut_29 : decode cX5_cut 29 = .ok (.iconst 0, 1) := by decide +kernel
theorem dX5_cut_30 : decode cX5_cut 30 = .ok (.istore 4, 2) := by decide +kernel
theorem dX5_cut_32 : decode cX5_cut 32 = .ok (.iconst 0, 1) := by decide +kernel
theorem dX5_cut_33 : decode cX5_cut 33 = .ok (.istore 5, 2) := by decide +kernel
theorem dX5_cut_35 : decode cX5_cut 35 = .ok (.iload 5, 2) := by decide +kernel
theorem dX5_cut_37 : decode cX5_cut 37 = .ok (.bipush 12, 2) := by decide +kernel
theorem dX5_cut_39 : decode cX5_cut 39 = .ok (.if_icmp .ge 53, 3) := by decide +kernel
theorem dX5_cut_42 : decode cX5_cut 42 = .ok (.aload_n 0, 1) := by decide +kernel
theorem dX5_cut_43 : decode cX5_cut 43 = .ok (.iload 5, 2) := by decide +kernel
theorem dX5_cut_45 : decode cX5_cut 45 = .ok (.iload_n 2, 1) := by decide +kernel
theorem dX5_cut_46 : decode cX5_cut 46 = .ok (.iload_n 3, 1) := by decide +kernel
theorem dX5_cut_47 : decode cX5_cut 47 = .ok (.invokevirtual 155, 3) := by decide +kernel
theorem dX5_cut_50 : decode cX5_cut 50 = .ok (.ldc 137, 2) := by decide +kernel
theorem dX5_cut_52 : decode cX5_cut 52 = .ok (.if_icmp .ne 6, 3) := by decide +kernel
theorem dX5_cut_55 : decode cX5_cut 55 = .ok (.goto 31, 3) := by decide +kernel
theorem dX5_cut_58 : decode cX5_cut 58 = .ok (.aload_n 0, 1) := by decide +kernel
theorem dX5_cut_59 : decode cX5_cut 59 = .ok (.iload 5, 2) := by decide +kernel
theorem dX5_cut_61 : decode cX5_cut 61 = .ok (.iload_n 2, 1) := by decide +kernel
theorem dX5_cut_62 : decode cX5_cut 62 = .ok (.iload_n 1, 1) := by decide +kernel
theorem dX5_cut_63 : decode cX5_cut 63 = .ok (.invokevirtual 148, 3) := by decide +kernel
theorem dX5_cut_66 : decode cX5_cut 66 = .ok (.aload_n 0, 1) := by decide +kernel
theorem dX5_cut_67 : decode cX5_cut 67 = .ok (.getfield 46, 3) := by decide +kernel
theorem dX5_cut_70 : decode cX5_cut 70 = .ok (.iload_n 3, 1) := by decide +kernel
theorem dX5_cut_71 : decode cX5_cut 71 = .ok (.iaload, 1) := by decide +kernel
theorem dX5_cut_72 : decode cX5_cut 72 = .ok (.ldc 137, 2) := by decide +kernel
theorem dX5_cut_74 : decode cX5_cut 74 = .ok (.if_icmp .ne 12, 3) := by decide +kernel
theorem dX5_cut_77 : decode cX5_cut 77 = .ok (.iload 4, 2) := by decide +kernel
theorem dX5_cut_79 : decode cX5_cut 79 = .ok (.iconst 1, 1) := by decide +kernel
theorem dX5_cut_80 : decode cX5_cut 80 = .ok (.iload 5, 2) := by decide +kernel
theorem dX5_cut_82 : decode cX5_cut 82 = .ok (.ishl, 1) := by decide +kernel
theorem dX5_cut_83 : decode cX5_cut 83 = .ok (.ior, 1) := by decide +kernel
theorem dX5_cut_84 : decode cX5_cut 84 = .ok (.istore 4, 2) := by decide +kernel
theorem dX5_cut_86 : decode cX5_cut 86 = .ok (.iinc 5 1, 3) := by decide +kernel
theorem dX5_cut_89 : decode cX5_cut 89 = .ok (.goto (-54), 3) := by decide +kernel
theorem dX5_cut_92 : decode cX5_cut 92 = .ok (.iload 4, 2) := by decide +kernel
theorem dX5_cut_94 : decode cX5_cut 94 = .ok (.ireturn, 1) := by decide +kernel
theorem dX5_parcel_0 : decode cX5_parcel 0 = .ok (.aload_n 0, 1) := by decide +kernel
theorem dX5_parcel_1 : decode cX5_parcel 1 = .ok (.iconst 0, 1) := by decide +kernel
theorem dX5_parcel_2 : decode cX5_parcel 2 = .ok (.putfield 101, 3) := by decide +kernel
theorem dX5_parcel_5 : decode cX5_parcel 5 = .ok (.aload_n 0, 1) := by decide +kernel
theorem dX5_parcel_6 : decode cX5_parcel 6 = .ok (.getfield 107, 3) := by decide +kernel
theorem dX5_parcel_9 : decode cX5_parcel 9 = .ok (.bipush 60, 2) := by decide +kernel
theorem dX5_parcel_11 : decode cX5_parcel 11 = .ok (.if_icmp .eq 32, 3) := by decide +kernel
theorem dX5_parcel_14 : decode cX5_parcel 14 = .ok (.iload_n 1, 1) := by decide +kernel
theorem dX5_parcel_15 : decode cX5_parcel 15 = .ok (.invokestatic 114, 3) := by decide +kernel
theorem dX5_parcel_18 : decode cX5_parcel 18 = .ok (.ifCond .eq 25, 3) := by decide +kernel
theorem dX5_parcel_21 : decode cX5_parcel 21 = .ok (.iload_n 2, 1) := by decide +kernel
theorem dX5_parcel_22 : decode cX5_parcel 22 = .ok (.invokestatic 114, 3) := by decide +kernel
theorem dX5_parcel_25 : decode cX5_parcel 25 = .ok (.ifCond .eq 18, 3) := by decide +kernel
theorem dX5_parcel_28 : decode cX5_parcel 28 = .ok (.iload_n 1, 1) := by decide +kernel
theorem dX5_parcel_29 : decode cX5_parcel 29 = .ok (.iload_n 2, 1) := by decide +kernel
theorem dX5_parcel_30 : decode cX5_parcel 30 = .ok (.if_icmp .eq 13, 3) := by decide +kernel
theorem dX5_parcel_33 : decode cX5_parcel 33 = .ok (.iload_n 3, 1) := by decide +kernel
theorem dX5_parcel_34 : decode cX5_parcel 34 = .ok (.iconst 1, 1) := by decide +kernel
theorem dX5_parcel_35 : decode cX5_parcel 35 = .ok (.bipush 20, 2) := by decide +kernel
theorem dX5_parcel_37 : decode cX5_parcel 37 = .ok (.invokestatic 110, 3) := by decide +kernel
theorem dX5_parcel_40 : decode cX5_parcel 40 = .ok (.ifCond .ne 5, 3) := by decide +kernel
theorem dX5_parcel_43 : decode cX5_parcel 43 = .ok (.iconst (-1), 1) := by decide +kernel
theorem dX5_parcel_44 : decode cX5_parcel 44 = .ok (.ireturn, 1) := by decide +kernel
theorem dX5_parcel_45 : decode cX5_parcel 45 = .ok (.aload_n 0, 1) := by decide +kernel
theorem dX5_parcel_46 : decode cX5_parcel 46 = .ok (.getfield 53, 3) := by decide +kernel
theorem dX5_parcel_49 : decode cX5_parcel 49 = .ok (.aload_n 0, 1) := by decide +kernel
theorem dX5_parcel_50 : decode cX5_parcel 50 = .ok (.getfield 107, 3) := by decide +kernel
theorem dX5_parcel_53 : decode cX5_parcel 53 = .ok (.iload_n 2, 1) := by decide +kernel
theorem dX5_parcel_54 : decode cX5_parcel 54 = .ok (.iastore, 1) := by decide +kernel
theorem dX5_parcel_55 : decode cX5_parcel 55 = .ok (.aload_n 0, 1) := by decide +kernel
theorem dX5_parcel_56 : decode cX5_parcel 56 = .ok (.getfield 56, 3) := by decide +kernel
theorem dX5_parcel_59 : decode cX5_parcel 59 = .ok (.aload_n 0, 1) := by decide +kernel
theorem dX5_parcel_60 : decode cX5_parcel 60 = .ok (.getfield 107, 3) := by decide +kernel
theorem dX5_parcel_63 : decode cX5_parcel 63 = .ok (.iload_n 3, 1) := by decide +kernel
theorem dX5_parcel_64 : decode cX5_parcel 64 = .ok (.iastore, 1) := by decide +kernel
theorem dX5_parcel_65 : decode cX5_parcel 65 = .ok (.aload_n 0, 1) := by decide +kernel
theorem dX5_parcel_66 : decode cX5_parcel 66 = .ok (.getfield 59, 3) := by decide +kernel
theorem dX5_parcel_69 : decode cX5_parcel 69 = .ok (.aload_n 0, 1) := by decide +kernel
theorem dX5_parcel_70 : decode cX5_parcel 70 = .ok (.getfield 107, 3) := by decide +kernel
theorem dX5_parcel_73 : decode cX5_parcel 73 = .ok (.iload_n 1, 1) := by decide +kernel
theorem dX5_parcel_74 : decode cX5_parcel 74 = .ok (.iastore, 1) := by decide +kernel
theorem dX5_parcel_75 : decode cX5_parcel 75 = .ok (.aload_n 0, 1) := by decide +kernel
theorem dX5_parcel_76 : decode cX5_parcel 76 = .ok (.getfield 62, 3) := by decide +kernel
theorem dX5_parcel_79 : decode cX5_parcel 79 = .ok (.aload_n 0, 1) := by decide +kernel
theorem dX5_parcel_80 : decode cX5_parcel 80 = .ok (.getfield 107, 3) := by decide +kernel
theorem dX5_parcel_83 : decode cX5_parcel 83 = .ok (.iconst (-1), 1) := by decide +kernel
theorem dX5_parcel_84 : decode cX5_parcel 84 = .ok (.iastore, 1) := by decide +kernel
theorem dX5_parcel_85 : decode cX5_parcel 85 = .ok (.aload_n 0, 1) := by decide +kernel
theorem dX5_parcel_86 : decode cX5_parcel 86 = .ok (.getfield 65, 3) := by decide +kernel
theorem dX5_parcel_89 : decode cX5_parcel 89 = .ok (.aload_n 0, 1) := by decide +kernel
theorem dX5_parcel_90 : decode cX5_parcel 90 = .ok (.getfield 107, 3) := by decide +kernel
theorem dX5_parcel_93 : decode cX5_parcel 93 = .ok (.iconst (-1), 1) := by decide +kernel
theorem dX5_parcel_94 : decode cX5_parcel 94 = .ok (.iastore, 1) := by decide +kernel
theorem dX5_parcel_95 : decode cX5_parcel 95 = .ok (.aload_n 0, 1) := by decide +kernel
theorem dX5_parcel_96 : decode cX5_parcel 96 = .ok (.getfield 68, 3) := by decide +kernel
theorem dX5_parcel_99 : decode cX5_parcel 99 = .ok (.aload_n 0, 1) := by decide +kernel
theorem dX5_parcel_100 : decode cX5_parcel 100 = .ok (.getfield 107, 3) := by decide +kernel
theorem dX5_parcel_103 : decode cX5_parcel 103 = .ok (.iconst (-1), 1) := by decide +kernel
theorem dX5_parcel_104 : decode cX5_parcel 104 = .ok (.iastore, 1) := by decide +kernel
theorem dX5_parcel_105 : decode cX5_parcel 105 = .ok (.aload_n 0, 1) := by decide +kernel
theorem dX5_parcel_106 : decode cX5_parcel 106 = .ok (.getfield 74, 3) := by decide +kernel
theorem dX5_parcel_109 : decode cX5_parcel 109 = .ok (.aload_n 0, 1) := by decide +kernel
theorem dX5_parcel_110 : decode cX5_parcel 110 = .ok (.getfield 107, 3) := by decide +kernel
theorem dX5_parcel_113 : decode cX5_parcel 113 = .ok (.iconst (-1), 1) := by decide +kernel
theorem dX5_parcel_114 : decode cX5_parcel 114 = .ok (.iastore, 1) := by decide +kernel
theorem dX5_parcel_115 : decode cX5_parcel 115 = .ok (.aload_n 0, 1) := by decide +kernel
theorem dX5_parcel_116 : decode cX5_parcel 116 = .ok (.dup, 1) := by decide +kernel
theorem dX5_parcel_117 : decode cX5_parcel 117 = .ok (.getfield 107, 3) := by decide +kernel
theorem dX5_parcel_120 : decode cX5_parcel 120 = .ok (.iconst 1, 1) := by decide +kernel
theorem dX5_parcel_121 : decode cX5_parcel 121 = .ok (.iadd, 1) := by decide +kernel
theorem dX5_parcel_122 : decode cX5_parcel 122 = .ok (.putfield 107, 3) := by decide +kernel
theorem dX5_parcel_125 : decode cX5_parcel 125 = .ok (.aload_n 0, 1) := by decide +kernel
theorem dX5_parcel_126 : decode cX5_parcel 126 = .ok (.getfield 107, 3) := by decide +kernel
theorem dX5_parcel_129 : decode cX5_parcel 129 = .ok (.iconst 1, 1) := by decide +kernel
theorem dX5_parcel_130 : decode cX5_parcel 130 = .ok (.isub, 1) := by decide +kernel
theorem dX5_parcel_131 : decode cX5_parcel 131 = .ok (.ireturn, 1) := by decide +kernel
theorem dX5_roomLeft_0 : decode cX5_roomLeft 0 = .ok (.aload_n 0, 1) := by decide +kernel
theorem dX5_roomLeft_1 : decode cX5_roomLeft 1 = .ok (.getfield 16, 3) := by decide +kernel
theorem dX5_roomLeft_4 : decode cX5_roomLeft 4 = .ok (.iload_n 1, 1) := by decide +kernel
theorem dX5_roomLeft_5 : decode cX5_roomLeft 5 = .ok (.iaload, 1) := by decide +kernel
theorem dX5_roomLeft_6 : decode cX5_roomLeft 6 = .ok (.istore_n 3, 1) := by decide +kernel
theorem dX5_roomLeft_7 : decode cX5_roomLeft 7 = .ok (.iconst 0, 1) := by decide +kernel
theorem dX5_roomLeft_8 : decode cX5_roomLeft 8 = .ok (.istore 4, 2) := by decide +kernel
theorem dX5_roomLeft_10 : decode cX5_roomLeft 10 = .ok (.iload 4, 2) := by decide +kernel
theorem dX5_roomLeft_12 : decode cX5_roomLeft 12 = .ok (.aload_n 0, 1) := by decide +kernel
theorem dX5_roomLeft_13 : decode cX5_roomLeft 13 = .ok (.getfield 107, 3) := by decide +kernel
theorem dX5_roomLeft_16 : decode cX5_roomLeft 16 = .ok (.if_icmp .ge 45, 3) := by decide +kernel
theorem dX5_roomLeft_19 : decode cX5_roomLeft 19 = .ok (.iload_n 3, 1) := by decide +kernel
theorem dX5_roomLeft_20 : decode cX5_roomLeft 20 = .ok (.aload_n 0, 1) := by decide +kernel
theorem dX5_roomLeft_21 : decode cX5_roomLeft 21 = .ok (.getfield 62, 3) := by decide +kernel
theorem dX5_roomLeft_24 : decode cX5_roomLeft 24 = .ok (.iload 4, 2) := by decide +kernel
theorem dX5_roomLeft_26 : decode cX5_roomLeft 26 = .ok (.iaload, 1) := by decide +kernel
theorem dX5_roomLeft_27 : decode cX5_roomLeft 27 = .ok (.iload_n 1, 1) := by decide +kernel
theorem dX5_roomLeft_28 : decode cX5_roomLeft 28 = .ok (.if_icmp .ne 24, 3) := by decide +kernel
theorem dX5_roomLeft_31 : decode cX5_roomLeft 31 = .ok (.aload_n 0, 1) := by decide +kernel
theorem dX5_roomLeft_32 : decode cX5_roomLeft 32 = .ok (.getfield 65, 3) := by decide +kernel
theorem dX5_roomLeft_35 : decode cX5_roomLeft 35 = .ok (.iload 4, 2) := by decide +kernel
theorem dX5_roomLeft_37 : decode cX5_roomLeft 37 = .ok (.iaload, 1) := by decide +kernel
theorem dX5_roomLeft_38 : decode cX5_roomLeft 38 = .ok (.iload_n 2, 1) := by decide +kernel
theorem dX5_roomLeft_39 : decode cX5_roomLeft 39 = .ok (.if_icmp .ne 13, 3) := by decide +kernel
theorem dX5_roomLeft_42 : decode cX5_roomLeft 42 = .ok (.aload_n 0, 1) := by decide +kernel
theorem dX5_roomLeft_43 : decode cX5_roomLeft 43 = .ok (.getfield 56, 3) := by decide +kernel
theorem dX5_roomLeft_46 : decode cX5_roomLeft 46 = .ok (.iload 4, 2) := by decide +kernel
theorem dX5_roomLeft_48 : decode cX5_roomLeft 48 = .ok (.iaload, 1) := by decide +kernel
theorem dX5_roomLeft_49 : decode cX5_roomLeft 49 = .ok (.goto 4, 3) := by decide +kernel
theorem dX5_roomLeft_52 : decode cX5_roomLeft 52 = .ok (.iconst 0, 1) := by decide +kernel
theorem dX5_roomLeft_53 : decode cX5_roomLeft 53 = .ok (.isub, 1) := by decide +kernel
theorem dX5_roomLeft_54 : decode cX5_roomLeft 54 = .ok (.istore_n 3, 1) := by decide +kernel
theorem dX5_roomLeft_55 : decode cX5_roomLeft 55 = .ok (.iinc 4 1, 3) := by decide +kernel
theorem dX5_roomLeft_58 : decode cX5_roomLeft 58 = .ok (.goto (-48), 3) := by decide +kernel
theorem dX5_roomLeft_61 : decode cX5_roomLeft 61 = .ok (.iload_n 3, 1) := by decide +kernel
theorem dX5_roomLeft_62 : decode cX5_roomLeft 62 = .ok (.ireturn, 1) := by decide +kernel
theorem dX5_seeks_0 : decode cX5_seeks 0 = .ok (.aload_n 0, 1) := by decide +kernel
theorem dX5_seeks_1 : decode cX5_seeks 1 = .ok (.aload_n 0, 1) := by decide +kernel
theorem dX5_seeks_2 : decode cX5_seeks 2 = .ok (.getfield 59, 3) := by decide +kernel
theorem dX5_seeks_5 : decode cX5_seeks 5 = .ok (.iload_n 1, 1) := by decide +kernel
theorem dX5_seeks_6 : decode cX5_seeks 6 = .ok (.iaload, 1) := by decide +kernel
theorem dX5_seeks_7 : decode cX5_seeks 7 = .ok (.aload_n 0, 1) := by decide +kernel
theorem dX5_seeks_8 : decode cX5_seeks 8 = .ok (.getfield 127, 3) := by decide +kernel
theorem dX5_seeks_11 : decode cX5_seeks 11 = .ok (.aload_n 0, 1) := by decide +kernel
theorem dX5_seeks_12 : decode cX5_seeks 12 = .ok (.getfield 53, 3) := by decide +kernel
theorem dX5_seeks_15 : decode cX5_seeks 15 = .ok (.iload_n 1, 1) := by decide +kernel
theorem dX5_seeks_16 : decode cX5_seeks 16 = .ok (.iaload, 1) := by decide +kernel
theorem dX5_seeks_17 : decode cX5_seeks 17 = .ok (.invokevirtual 155, 3) := by decide +kernel
theorem dX5_seeks_20 : decode cX5_seeks 20 = .ok (.istore_n 2, 1) := by decide +kernel
theorem dX5_seeks_21 : decode cX5_seeks 21 = .ok (.iload_n 2, 1) := by decide +kernel
theorem dX5_seeks_22 : decode cX5_seeks 22 = .ok (.ldc 137, 2) := by decide +kernel
theorem dX5_seeks_24 : decode cX5_seeks 24 = .ok (.if_icmp .ne 4, 3) := by decide +kernel
theorem dX5_seeks_27 : decode cX5_seeks 27 = .ok (.return_, 1) := by decide +kernel
theorem dX5_seeks_28 : decode cX5_seeks 28 = .ok (.iconst 0, 1) := by decide +kernel
theorem dX5_seeks_29 : decode cX5_seeks 29 = .ok (.istore_n 3, 1) := by decide +kernel
theorem dX5_seeks_30 : decode cX5_seeks 30 = .ok (.iload_n 3, 1) := by decide +kernel
theorem dX5_seeks_31 : decode cX5_seeks 31 = .ok (.aload_n 0, 1) := by decide +kernel
theorem dX5_seeks_32 : decode cX5_seeks 32 = .ok (.getfield 104, 3) := by decide +kernel
theorem dX5_seeks_35 : decode cX5_seeks 35 = .ok (.if_icmp .ge 273, 3) := by decide +kernel
theorem dX5_seeks_38 : decode cX5_seeks 38 = .ok (.iconst 0, 1) := by decide +kernel
theorem dX5_seeks_39 : decode cX5_seeks 39 = .ok (.aload_n 0, 1) := by decide +kernel
theorem dX5_seeks_40 : decode cX5_seeks 40 = .ok (.getfield 127, 3) := by decide +kernel
theorem dX5_seeks_43 : decode cX5_seeks 43 = .ok (.bipush 24, 2) := by decide +kernel
theorem dX5_seeks_45 : decode cX5_seeks 45 = .ok (.idiv, 1) := by decide +kernel
theorem dX5_seeks_46 : decode cX5_seeks 46 = .ok (.iconst 4, 1) := by decide +kernel
theorem dX5_seeks_47 : decode cX5_seeks 47 = .ok (.isub, 1) := by decide +kernel
theorem dX5_seeks_48 : decode cX5_seeks 48 = .ok (.invokestatic 138, 3) := by decide +kernel
theorem dX5_seeks_51 : decode cX5_seeks 51 = .ok (.istore 4, 2) := by decide +kernel
theorem dX5_seeks_53 : decode cX5_seeks 53 = .ok (.bipush 24, 2) := by decide +kernel
theorem dX5_seeks_55 : decode cX5_seeks 55 = .ok (.iload 4, 2) := by decide +kernel
theorem dX5_seeks_57 : decode cX5_seeks 57 = .ok (.imul, 1) := by decide +kernel
theorem dX5_seeks_58 : decode cX5_seeks 58 = .ok (.aload_n 0, 1) := by decide +kernel
theorem dX5_seeks_59 : decode cX5_seeks 59 = .ok (.getfield 127, 3) := by decide +kernel
theorem dX5_seeks_62 : decode cX5_seeks 62 = .ok (.if_icmp .gt 240, 3) := by decide +kernel
theorem dX5_seeks_65 : decode cX5_seeks 65 = .ok (.aload_n 0, 1) := by decide +kernel
theorem dX5_seeks_66 : decode cX5_seeks 66 = .ok (.iload_n 3, 1) := by decide +kernel
theorem dX5_seeks_67 : decode cX5_seeks 67 = .ok (.iload 4, 2) := by decide +kernel
theorem dX5_seeks_69 : decode cX5_seeks 69 = .ok (.invokevirtual 133, 3) := by decide +kernel
theorem dX5_seeks_72 : decode cX5_seeks 72 = .ok (.ifCond .eq 224, 3) := by decide +kernel
theorem dX5_seeks_75 : decode cX5_seeks 75 = .ok (.aload_n 0, 1) := by decide +kernel
theorem dX5_seeks_76 : decode cX5_seeks 76 = .ok (.iload_n 3, 1) := by decide +kernel
theorem dX5_seeks_77 : decode cX5_seeks 77 = .ok (.iload 4, 2) := by decide +kernel
theorem dX5_seeks_79 : decode cX5_seeks 79 = .ok (.invokevirtual 158, 3) := by decide +kernel
theorem dX5_seeks_82 : decode cX5_seeks 82 = .ok (.aload_n 0, 1) := by decide +kernel
theorem dX5_seeks_83 : decode cX5_seeks 83 = .ok (.getfield 56, 3) := by decide +kernel
theorem dX5_seeks_86 : decode cX5_seeks 86 = .ok (.iload_n 1, 1) := by decide +kernel
theorem dX5_seeks_87 : decode cX5_seeks 87 = .ok (.iaload, 1) := by decide +kernel
theorem dX5_seeks_88 : decode cX5_seeks 88 = .ok (.if_icmp .ge 6, 3) := by decide +kernel
theorem dX5_seeks_91 : decode cX5_seeks 91 = .ok (.goto 205, 3) := by decide +kernel
theorem dX5_seeks_94 : decode cX5_seeks 94 = .ok (.iconst (-1), 1) := by decide +kernel
theorem dX5_seeks_95 : decode cX5_seeks 95 = .ok (.istore 5, 2) := by decide +kernel
theorem dX5_seeks_97 : decode cX5_seeks 97 = .ok (.iconst 0, 1) := by decide +kernel
theorem dX5_seeks_98 : decode cX5_seeks 98 = .ok (.istore 6, 2) := by decide +kernel
theorem dX5_seeks_100 : decode cX5_seeks 100 = .ok (.iload 6, 2) := by decide +kernel
theorem dX5_seeks_102 : decode cX5_seeks 102 = .ok (.aload_n 0, 1) := by decide +kernel
theorem dX5_seeks_103 : decode cX5_seeks 103 = .ok (.getfield 22, 3) := by decide +kernel
theorem dX5_seeks_106 : decode cX5_seeks 106 = .ok (.iload_n 3, 1) := by decide +kernel
theorem dX5_seeks_107 : decode cX5_seeks 107 = .ok (.iaload, 1) := by decide +kernel
theorem dX5_seeks_108 : decode cX5_seeks 108 = .ok (.iconst 1, 1) := by decide +kernel
theorem dX5_seeks_109 : decode cX5_seeks 109 = .ok (.isub, 1) := by decide +kernel
theorem dX5_seeks_110 : decode cX5_seeks 110 = .ok (.if_icmp .ge 50, 3) := by decide +kernel
theorem dX5_seeks_113 : decode cX5_seeks 113 = .ok (.aload_n 0, 1) := by decide +kernel
theorem dX5_seeks_114 : decode cX5_seeks 114 = .ok (.getfield 28, 3) := by decide +kernel
theorem dX5_seeks_117 : decode cX5_seeks 117 = .ok (.bipush 6, 2) := by decide +kernel
theorem dX5_seeks_119 : decode cX5_seeks 119 = .ok (.iload_n 3, 1) := by decide +kernel
theorem dX5_seeks_120 : decode cX5_seeks 120 = .ok (.imul, 1) := by decide +kernel
theorem dX5_seeks_121 : decode cX5_seeks 121 = .ok (.iload 6, 2) := by decide +kernel
theorem dX5_seeks_123 : decode cX5_seeks 123 = .ok (.iadd, 1) := by decide +kernel
theorem dX5_seeks_124 : decode cX5_seeks 124 = .ok (.iaload, 1) := by decide +kernel
theorem dX5_seeks_125 : decode cX5_seeks 125 = .ok (.aload_n 0, 1) := by decide +kernel
theorem dX5_seeks_126 : decode cX5_seeks 126 = .ok (.getfield 59, 3) := by decide +kernel
theorem dX5_seeks_129 : decode cX5_seeks 129 = .ok (.iload_n 1, 1) := by decide +kernel
theorem dX5_seeks_130 : decode cX5_seeks 130 = .ok (.iaload, 1) := by decide +kernel
theorem dX5_seeks_131 : decode cX5_seeks 131 = .ok (.if_icmp .ne 23, 3) := by decide +kernel
theorem dX5_seeks_134 : decode cX5_seeks 134 = .ok (.aload_n 0, 1) := by decide +kernel
theorem dX5_seeks_135 : decode cX5_seeks 135 = .ok (.iload_n 3, 1) := by decide +kernel
theorem dX5_seeks_136 : decode cX5_seeks 136 = .ok (.iload 4, 2) := by decide +kernel
theorem dX5_seeks_138 : decode cX5_seeks 138 = .ok (.iload 6, 2) := by decide +kernel
theorem dX5_seeks_140 : decode cX5_seeks 140 = .ok (.invokevirtual 144, 3) := by decide +kernel
theorem dX5_seeks_143 : decode cX5_seeks 143 = .ok (.aload_n 0, 1) := by decide +kernel
theorem dX5_seeks_144 : decode cX5_seeks 144 = .ok (.getfield 127, 3) := by decide +kernel
theorem dX5_seeks_147 : decode cX5_seeks 147 = .ok (.if_icmp .ne 7, 3) := by decide +kernel
theorem dX5_seeks_150 : decode cX5_seeks 150 = .ok (.iload 6, 2) := by decide +kernel
theorem dX5_seeks_152 : decode cX5_seeks 152 = .ok (.istore 5, 2) := by decide +kernel
theorem dX5_seeks_154 : decode cX5_seeks 154 = .ok (.iinc 6 1, 3) := by decide +kernel
theorem dX5_seeks_157 : decode cX5_seeks 157 = .ok (.goto (-57), 3) := by decide +kernel
theorem dX5_seeks_160 : decode cX5_seeks 160 = .ok (.iload 5, 2) := by decide +kernel
theorem dX5_seeks_162 : decode cX5_seeks 162 = .ok (.iconst (-1), 1) := by decide +kernel
theorem dX5_seeks_163 : decode cX5_seeks 163 = .ok (.if_icmp .ne 6, 3) := by decide +kernel
theorem dX5_seeks_166 : decode cX5_seeks 166 = .ok (.goto 130, 3) := by decide +kernel
theorem dX5_seeks_169 : decode cX5_seeks 169 = .ok (.aload_n 0, 1) := by decide +kernel
theorem dX5_seeks_170 : decode cX5_seeks 170 = .ok (.getfield 22, 3) := by decide +kernel
theorem dX5_seeks_173 : decode cX5_seeks 173 = .ok (.iload_n 3, 1) := by decide +kernel
theorem dX5_seeks_174 : decode cX5_seeks 174 = .ok (.iaload, 1) := by decide +kernel
theorem dX5_seeks_175 : decode cX5_seeks 175 = .ok (.iconst 1, 1) := by decide +kernel
theorem dX5_seeks_176 : decode cX5_seeks 176 = .ok (.isub, 1) := by decide +kernel
theorem dX5_seeks_177 : decode cX5_seeks 177 = .ok (.istore 6, 2) := by decide +kernel
theorem dX5_seeks_179 : decode cX5_seeks 179 = .ok (.iload 6, 2) := by decide +kernel
theorem dX5_seeks_181 : decode cX5_seeks 181 = .ok (.iload 5, 2) := by decide +kernel
theorem dX5_seeks_183 : decode cX5_seeks 183 = .ok (.if_icmp .le 113, 3) := by decide +kernel
theorem dX5_seeks_186 : decode cX5_seeks 186 = .ok (.aload_n 0, 1) := by decide +kernel
theorem dX5_seeks_187 : decode cX5_seeks 187 = .ok (.aload_n 0, 1) := by decide +kernel
theorem dX5_seeks_188 : decode cX5_seeks 188 = .ok (.getfield 28, 3) := by decide +kernel
theorem dX5_seeks_191 : decode cX5_seeks 191 = .ok (.bipush 6, 2) := by decide +kernel
theorem dX5_seeks_193 : decode cX5_seeks 193 = .ok (.iload_n 3, 1) := by decide +kernel
theorem dX5_seeks_194 : decode cX5_seeks 194 = .ok (.imul, 1) := by decide +kernel
theorem dX5_seeks_195 : decode cX5_seeks 195 = .ok (.iload 6, 2) := by decide +kernel
theorem dX5_seeks_197 : decode cX5_seeks 197 = .ok (.iadd, 1) := by decide +kernel
theorem dX5_seeks_198 : decode cX5_seeks 198 = .ok (.iaload, 1) := by decide +kernel
theorem dX5_seeks_199 : decode cX5_seeks 199 = .ok (.aload_n 0, 1) := by decide +kernel
theorem dX5_seeks_200 : decode cX5_seeks 200 = .ok (.iload_n 3, 1) := by decide +kernel
theorem dX5_seeks_201 : decode cX5_seeks 201 = .ok (.iload 4, 2) := by decide +kernel
theorem dX5_seeks_203 : decode cX5_seeks 203 = .ok (.iload 6, 2) := by decide +kernel
theorem dX5_seeks_205 : decode cX5_seeks 205 = .ok (.invokevirtual 144, 3) := by decide +kernel
theorem dX5_seeks_208 : decode cX5_seeks 208 = .ok (.aload_n 0, 1) := by decide +kernel
theorem dX5_seeks_209 : decode cX5_seeks 209 = .ok (.getfield 53, 3) := by decide +kernel
theorem dX5_seeks_212 : decode cX5_seeks 212 = .ok (.iload_n 1, 1) := by decide +kernel
theorem dX5_seeks_213 : decode cX5_seeks 213 = .ok (.iaload, 1) := by decide +kernel
theorem dX5_seeks_214 : decode cX5_seeks 214 = .ok (.invokevirtual 155, 3) := by decide +kernel
theorem dX5_seeks_217 : decode cX5_seeks 217 = .ok (.iload_n 2, 1) := by decide +kernel
theorem dX5_seeks_218 : decode cX5_seeks 218 = .ok (.if_icmp .eq 6, 3) := by decide +kernel
theorem dX5_seeks_221 : decode cX5_seeks 221 = .ok (.goto 69, 3) := by decide +kernel
theorem dX5_seeks_224 : decode cX5_seeks 224 = .ok (.aload_n 0, 1) := by decide +kernel
theorem dX5_seeks_225 : decode cX5_seeks 225 = .ok (.getfield 59, 3) := by decide +kernel
theorem dX5_seeks_228 : decode cX5_seeks 228 = .ok (.iload_n 1, 1) := by decide +kernel
theorem dX5_seeks_229 : decode cX5_seeks 229 = .ok (.iconst (-1), 1) := by decide +kernel
theorem dX5_seeks_230 : decode cX5_seeks 230 = .ok (.iastore, 1) := by decide +kernel
theorem dX5_seeks_231 : decode cX5_seeks 231 = .ok (.aload_n 0, 1) := by decide +kernel
theorem dX5_seeks_232 : decode cX5_seeks 232 = .ok (.getfield 62, 3) := by decide +kernel
theorem dX5_seeks_235 : decode cX5_seeks 235 = .ok (.iload_n 1, 1) := by decide +kernel
theorem dX5_seeks_236 : decode cX5_seeks 236 = .ok (.iload_n 3, 1) := by decide +kernel
theorem dX5_seeks_237 : decode cX5_seeks 237 = .ok (.iastore, 1) := by decide +kernel
theorem dX5_seeks_238 : decode cX5_seeks 238 = .ok (.aload_n 0, 1) := by decide +kernel
theorem dX5_seeks_239 : decode cX5_seeks 239 = .ok (.getfield 65, 3) := by decide +kernel
theorem dX5_seeks_242 : decode cX5_seeks 242 = .ok (.iload_n 1, 1) := by decide +kernel
theorem dX5_seeks_243 : decode cX5_seeks 243 = .ok (.iload 4, 2) := by decide +kernel
theorem dX5_seeks_245 : decode cX5_seeks 245 = .ok (.iastore, 1) := by decide +kernel
theorem dX5_seeks_246 : decode cX5_seeks 246 = .ok (.aload_n 0, 1) := by decide +kernel
theorem dX5_seeks_247 : decode cX5_seeks 247 = .ok (.getfield 68, 3) := by decide +kernel
theorem dX5_seeks_250 : decode cX5_seeks 250 = .ok (.iload_n 1, 1) := by decide +kernel
theorem dX5_seeks_251 : decode cX5_seeks 251 = .ok (.aload_n 0, 1) := by decide +kernel
theorem dX5_seeks_252 : decode cX5_seeks 252 = .ok (.iload_n 3, 1) := by decide +kernel
theorem dX5_seeks_253 : decode cX5_seeks 253 = .ok (.iload 4, 2) := by decide +kernel
theorem dX5_seeks_255 : decode cX5_seeks 255 = .ok (.iload 6, 2) := by decide +kernel
theorem dX5_seeks_257 : decode cX5_seeks 257 = .ok (.invokevirtual 144, 3) := by decide +kernel
theorem dX5_seeks_260 : decode cX5_seeks 260 = .ok (.iastore, 1) := by decide +kernel
theorem dX5_seeks_261 : decode cX5_seeks 261 = .ok (.aload_n 0, 1) := by decide +kernel
theorem dX5_seeks_262 : decode cX5_seeks 262 = .ok (.getfield 71, 3) := by decide +kernel
theorem dX5_seeks_265 : decode cX5_seeks 265 = .ok (.iload_n 1, 1) := by decide +kernel
theorem dX5_seeks_266 : decode cX5_seeks 266 = .ok (.aload_n 0, 1) := by decide +kernel
theorem dX5_seeks_267 : decode cX5_seeks 267 = .ok (.getfield 28, 3) := by decide +kernel
theorem dX5_seeks_270 : decode cX5_seeks 270 = .ok (.bipush 6, 2) := by decide +kernel
theorem dX5_seeks_272 : decode cX5_seeks 272 = .ok (.iload_n 3, 1) := by decide +kernel
theorem dX5_seeks_273 : decode cX5_seeks 273 = .ok (.imul, 1) := by decide +kernel
theorem dX5_seeks_274 : decode cX5_seeks 274 = .ok (.iload 6, 2) := by decide +kernel
theorem dX5_seeks_276 : decode cX5_seeks 276 = .ok (.iadd, 1) := by decide +kernel
theorem dX5_seeks_277 : decode cX5_seeks 277 = .ok (.iaload, 1) := by decide +kernel
theorem dX5_seeks_278 : decode cX5_seeks 278 = .ok (.iastore, 1) := by decide +kernel
theorem dX5_seeks_279 : decode cX5_seeks 279 = .ok (.aload_n 0, 1) := by decide +kernel
theorem dX5_seeks_280 : decode cX5_seeks 280 = .ok (.getfield 77, 3) := by decide +kernel
theorem dX5_seeks_283 : decode cX5_seeks 283 = .ok (.iload_n 1, 1) := by decide +kernel
theorem dX5_seeks_284 : decode cX5_seeks 284 = .ok (.dup2, 1) := by decide +kernel
theorem dX5_seeks_285 : decode cX5_seeks 285 = .ok (.iaload, 1) := by decide +kernel
theorem dX5_seeks_286 : decode cX5_seeks 286 = .ok (.iconst 1, 1) := by decide +kernel
theorem dX5_seeks_287 : decode cX5_seeks 287 = .ok (.iadd, 1) := by decide +kernel
theorem dX5_seeks_288 : decode cX5_seeks 288 = .ok (.iastore, 1) := by decide +kernel
theorem dX5_seeks_289 : decode cX5_seeks 289 = .ok (.return_, 1) := by decide +kernel
theorem dX5_seeks_290 : decode cX5_seeks 290 = .ok (.iinc 6 (-1), 3) := by decide +kernel
theorem dX5_seeks_293 : decode cX5_seeks 293 = .ok (.goto (-114), 3) := by decide +kernel
theorem dX5_seeks_296 : decode cX5_seeks 296 = .ok (.iinc 4 1, 3) := by decide +kernel
theorem dX5_seeks_299 : decode cX5_seeks 299 = .ok (.goto (-246), 3) := by decide +kernel
theorem dX5_seeks_302 : decode cX5_seeks 302 = .ok (.iinc 3 1, 3) := by decide +kernel
theorem dX5_seeks_305 : decode cX5_seeks 305 = .ok (.goto (-275), 3) := by decide +kernel
theorem dX5_seeks_308 : decode cX5_seeks 308 = .ok (.return_, 1) := by decide +kernel
theorem dX5_goesBy_0 : decode cX5_goesBy 0 = .ok (.aload_n 0, 1) := by decide +kernel
theorem dX5_goesBy_1 : decode cX5_goesBy 1 = .ok (.dup, 1) := by decide +kernel
theorem dX5_goesBy_2 : decode cX5_goesBy 2 = .ok (.getfield 127, 3) := by decide +kernel
theorem dX5_goesBy_5 : decode cX5_goesBy 5 = .ok (.iconst 1, 1) := by decide +kernel
theorem dX5_goesBy_6 : decode cX5_goesBy 6 = .ok (.iadd, 1) := by decide +kernel
theorem dX5_goesBy_7 : decode cX5_goesBy 7 = .ok (.putfield 127, 3) := by decide +kernel
theorem dX5_goesBy_10 : decode cX5_goesBy 10 = .ok (.iconst 0, 1) := by decide +kernel
theorem dX5_goesBy_11 : decode cX5_goesBy 11 = .ok (.istore_n 1, 1) := by decide +kernel
theorem dX5_goesBy_12 : decode cX5_goesBy 12 = .ok (.iload_n 1, 1) := by decide +kernel
theorem dX5_goesBy_13 : decode cX5_goesBy 13 = .ok (.aload_n 0, 1) := by decide +kernel
theorem dX5_goesBy_14 : decode cX5_goesBy 14 = .ok (.getfield 107, 3) := by decide +kernel
theorem dX5_goesBy_17 : decode cX5_goesBy 17 = .ok (.if_icmp .ge 125, 3) := by decide +kernel
theorem dX5_goesBy_20 : decode cX5_goesBy 20 = .ok (.aload_n 0, 1) := by decide +kernel
theorem dX5_goesBy_21 : decode cX5_goesBy 21 = .ok (.getfield 62, 3) := by decide +kernel
theorem dX5_goesBy_24 : decode cX5_goesBy 24 = .ok (.iload_n 1, 1) := by decide +kernel
theorem dX5_goesBy_25 : decode cX5_goesBy 25 = .ok (.iaload, 1) := by decide +kernel
theorem dX5_goesBy_26 : decode cX5_goesBy 26 = .ok (.iconst (-1), 1) := by decide +kernel
theorem dX5_goesBy_27 : decode cX5_goesBy 27 = .ok (.if_icmp .eq 109, 3) := by decide +kernel
theorem dX5_goesBy_30 : decode cX5_goesBy 30 = .ok (.aload_n 0, 1) := by decide +kernel
theorem dX5_goesBy_31 : decode cX5_goesBy 31 = .ok (.getfield 68, 3) := by decide +kernel
theorem dX5_goesBy_34 : decode cX5_goesBy 34 = .ok (.iload_n 1, 1) := by decide +kernel
theorem dX5_goesBy_35 : decode cX5_goesBy 35 = .ok (.iaload, 1) := by decide +kernel
theorem dX5_goesBy_36 : decode cX5_goesBy 36 = .ok (.aload_n 0, 1) := by decide +kernel
theorem dX5_goesBy_37 : decode cX5_goesBy 37 = .ok (.getfield 127, 3) := by decide +kernel
theorem dX5_goesBy_40 : decode cX5_goesBy 40 = .ok (.if_icmp .eq 6, 3) := by decide +kernel
theorem dX5_goesBy_43 : decode cX5_goesBy 43 = .ok (.goto 93, 3) := by decide +kernel
theorem dX5_goesBy_46 : decode cX5_goesBy 46 = .ok (.aload_n 0, 1) := by decide +kernel
theorem dX5_goesBy_47 : decode cX5_goesBy 47 = .ok (.getfield 25, 3) := by decide +kernel
theorem dX5_goesBy_50 : decode cX5_goesBy 50 = .ok (.aload_n 0, 1) := by decide +kernel
theorem dX5_goesBy_51 : decode cX5_goesBy 51 = .ok (.getfield 62, 3) := by decide +kernel
theorem dX5_goesBy_54 : decode cX5_goesBy 54 = .ok (.iload_n 1, 1) := by decide +kernel
theorem dX5_goesBy_55 : decode cX5_goesBy 55 = .ok (.iaload, 1) := by decide +kernel
theorem dX5_goesBy_56 : decode cX5_goesBy 56 = .ok (.dup2, 1) := by decide +kernel
theorem dX5_goesBy_57 : decode cX5_goesBy 57 = .ok (.iaload, 1) := by decide +kernel
theorem dX5_goesBy_58 : decode cX5_goesBy 58 = .ok (.aload_n 0, 1) := by decide +kernel
theorem dX5_goesBy_59 : decode cX5_goesBy 59 = .ok (.getfield 56, 3) := by decide +kernel
theorem dX5_goesBy_62 : decode cX5_goesBy 62 = .ok (.iload_n 1, 1) := by decide +kernel
theorem dX5_goesBy_63 : decode cX5_goesBy 63 = .ok (.iaload, 1) := by decide +kernel
theorem dX5_goesBy_64 : decode cX5_goesBy 64 = .ok (.aload_n 0, 1) := by decide +kernel
theorem dX5_goesBy_65 : decode cX5_goesBy 65 = .ok (.getfield 19, 3) := by decide +kernel
theorem dX5_goesBy_68 : decode cX5_goesBy 68 = .ok (.aload_n 0, 1) := by decide +kernel
theorem dX5_goesBy_69 : decode cX5_goesBy 69 = .ok (.getfield 62, 3) := by decide +kernel
theorem dX5_goesBy_72 : decode cX5_goesBy 72 = .ok (.iload_n 1, 1) := by decide +kernel
theorem dX5_goesBy_73 : decode cX5_goesBy 73 = .ok (.iaload, 1) := by decide +kernel
theorem dX5_goesBy_74 : decode cX5_goesBy 74 = .ok (.iaload, 1) := by decide +kernel
theorem dX5_goesBy_75 : decode cX5_goesBy 75 = .ok (.imul, 1) := by decide +kernel
theorem dX5_goesBy_76 : decode cX5_goesBy 76 = .ok (.iadd, 1) := by decide +kernel
theorem dX5_goesBy_77 : decode cX5_goesBy 77 = .ok (.iastore, 1) := by decide +kernel
theorem dX5_goesBy_78 : decode cX5_goesBy 78 = .ok (.aload_n 0, 1) := by decide +kernel
theorem dX5_goesBy_79 : decode cX5_goesBy 79 = .ok (.getfield 59, 3) := by decide +kernel
theorem dX5_goesBy_82 : decode cX5_goesBy 82 = .ok (.iload_n 1, 1) := by decide +kernel
theorem dX5_goesBy_83 : decode cX5_goesBy 83 = .ok (.aload_n 0, 1) := by decide +kernel
theorem dX5_goesBy_84 : decode cX5_goesBy 84 = .ok (.getfield 71, 3) := by decide +kernel
theorem dX5_goesBy_87 : decode cX5_goesBy 87 = .ok (.iload_n 1, 1) := by decide +kernel
theorem dX5_goesBy_88 : decode cX5_goesBy 88 = .ok (.iaload, 1) := by decide +kernel
theorem dX5_goesBy_89 : decode cX5_goesBy 89 = .ok (.iastore, 1) := by decide +kernel
theorem dX5_goesBy_90 : decode cX5_goesBy 90 = .ok (.aload_n 0, 1) := by decide +kernel
theorem dX5_goesBy_91 : decode cX5_goesBy 91 = .ok (.getfield 62, 3) := by decide +kernel
theorem dX5_goesBy_94 : decode cX5_goesBy 94 = .ok (.iload_n 1, 1) := by decide +kernel
theorem dX5_goesBy_95 : decode cX5_goesBy 95 = .ok (.iconst (-1), 1) := by decide +kernel
theorem dX5_goesBy_96 : decode cX5_goesBy 96 = .ok (.iastore, 1) := by decide +kernel
theorem dX5_goesBy_97 : decode cX5_goesBy 97 = .ok (.aload_n 0, 1) := by decide +kernel
theorem dX5_goesBy_98 : decode cX5_goesBy 98 = .ok (.getfield 65, 3) := by decide +kernel
theorem dX5_goesBy_101 : decode cX5_goesBy 101 = .ok (.iload_n 1, 1) := by decide +kernel
theorem dX5_goesBy_102 : decode cX5_goesBy 102 = .ok (.iconst (-1), 1) := by decide +kernel
theorem dX5_goesBy_103 : decode cX5_goesBy 103 = .ok (.iastore, 1) := by decide +kernel
theorem dX5_goesBy_104 : decode cX5_goesBy 104 = .ok (.aload_n 0, 1) := by decide +kernel
theorem dX5_goesBy_105 : decode cX5_goesBy 105 = .ok (.getfield 68, 3) := by decide +kernel
theorem dX5_goesBy_108 : decode cX5_goesBy 108 = .ok (.iload_n 1, 1) := by decide +kernel
theorem dX5_goesBy_109 : decode cX5_goesBy 109 = .ok (.iconst (-1), 1) := by decide +kernel
theorem dX5_goesBy_110 : decode cX5_goesBy 110 = .ok (.iastore, 1) := by decide +kernel
theorem dX5_goesBy_111 : decode cX5_goesBy 111 = .ok (.aload_n 0, 1) := by decide +kernel
theorem dX5_goesBy_112 : decode cX5_goesBy 112 = .ok (.getfield 59, 3) := by decide +kernel
theorem dX5_goesBy_115 : decode cX5_goesBy 115 = .ok (.iload_n 1, 1) := by decide +kernel
theorem dX5_goesBy_116 : decode cX5_goesBy 116 = .ok (.iaload, 1) := by decide +kernel
theorem dX5_goesBy_117 : decode cX5_goesBy 117 = .ok (.aload_n 0, 1) := by decide +kernel
theorem dX5_goesBy_118 : decode cX5_goesBy 118 = .ok (.getfield 53, 3) := by decide +kernel
theorem dX5_goesBy_121 : decode cX5_goesBy 121 = .ok (.iload_n 1, 1) := by decide +kernel
theorem dX5_goesBy_122 : decode cX5_goesBy 122 = .ok (.iaload, 1) := by decide +kernel
theorem dX5_goesBy_123 : decode cX5_goesBy 123 = .ok (.if_icmp .ne 13, 3) := by decide +kernel
theorem dX5_goesBy_126 : decode cX5_goesBy 126 = .ok (.aload_n 0, 1) := by decide +kernel
theorem dX5_goesBy_127 : decode cX5_goesBy 127 = .ok (.getfield 74, 3) := by decide +kernel
theorem dX5_goesBy_130 : decode cX5_goesBy 130 = .ok (.iload_n 1, 1) := by decide +kernel
theorem dX5_goesBy_131 : decode cX5_goesBy 131 = .ok (.aload_n 0, 1) := by decide +kernel
theorem dX5_goesBy_132 : decode cX5_goesBy 132 = .ok (.getfield 127, 3) := by decide +kernel
theorem dX5_goesBy_135 : decode cX5_goesBy 135 = .ok (.iastore, 1) := by decide +kernel
theorem dX5_goesBy_136 : decode cX5_goesBy 136 = .ok (.iinc 1 1, 3) := by decide +kernel
theorem dX5_goesBy_139 : decode cX5_goesBy 139 = .ok (.goto (-127), 3) := by decide +kernel
theorem dX5_goesBy_142 : decode cX5_goesBy 142 = .ok (.iconst 0, 1) := by decide +kernel
theorem dX5_goesBy_143 : decode cX5_goesBy 143 = .ok (.istore_n 1, 1) := by decide +kernel
theorem dX5_goesBy_144 : decode cX5_goesBy 144 = .ok (.iload_n 1, 1) := by decide +kernel
theorem dX5_goesBy_145 : decode cX5_goesBy 145 = .ok (.aload_n 0, 1) := by decide +kernel
theorem dX5_goesBy_146 : decode cX5_goesBy 146 = .ok (.getfield 107, 3) := by decide +kernel
theorem dX5_goesBy_149 : decode cX5_goesBy 149 = .ok (.if_icmp .ge 34, 3) := by decide +kernel
theorem dX5_goesBy_152 : decode cX5_goesBy 152 = .ok (.aload_n 0, 1) := by decide +kernel
theorem dX5_goesBy_153 : decode cX5_goesBy 153 = .ok (.getfield 59, 3) := by decide +kernel
theorem dX5_goesBy_156 : decode cX5_goesBy 156 = .ok (.iload_n 1, 1) := by decide +kernel
theorem dX5_goesBy_157 : decode cX5_goesBy 157 = .ok (.iaload, 1) := by decide +kernel
theorem dX5_goesBy_158 : decode cX5_goesBy 158 = .ok (.iconst (-1), 1) := by decide +kernel
theorem dX5_goesBy_159 : decode cX5_goesBy 159 = .ok (.if_icmp .eq 18, 3) := by decide +kernel
theorem dX5_goesBy_162 : decode cX5_goesBy 162 = .ok (.aload_n 0, 1) := by decide +kernel
theorem dX5_goesBy_163 : decode cX5_goesBy 163 = .ok (.getfield 74, 3) := by decide +kernel
theorem dX5_goesBy_166 : decode cX5_goesBy 166 = .ok (.iload_n 1, 1) := by decide +kernel
theorem dX5_goesBy_167 : decode cX5_goesBy 167 = .ok (.iaload, 1) := by decide +kernel
theorem dX5_goesBy_168 : decode cX5_goesBy 168 = .ok (.iconst (-1), 1) := by decide +kernel
theorem dX5_goesBy_169 : decode cX5_goesBy 169 = .ok (.if_icmp .ne 8, 3) := by decide +kernel
theorem dX5_goesBy_172 : decode cX5_goesBy 172 = .ok (.aload_n 0, 1) := by decide +kernel
theorem dX5_goesBy_173 : decode cX5_goesBy 173 = .ok (.iload_n 1, 1) := by decide +kernel
theorem dX5_goesBy_174 : decode cX5_goesBy 174 = .ok (.invokevirtual 161, 3) := by decide +kernel
theorem dX5_goesBy_177 : decode cX5_goesBy 177 = .ok (.iinc 1 1, 3) := by decide +kernel
theorem dX5_goesBy_180 : decode cX5_goesBy 180 = .ok (.goto (-36), 3) := by decide +kernel
theorem dX5_goesBy_183 : decode cX5_goesBy 183 = .ok (.return_, 1) := by decide +kernel
theorem dX5_tick_0 : decode cX5_tick 0 = .ok (.aload_n 0, 1) := by decide +kernel
theorem dX5_tick_1 : decode cX5_tick 1 = .ok (.iconst 0, 1) := by decide +kernel
theorem dX5_tick_2 : decode cX5_tick 2 = .ok (.putfield 101, 3) := by decide +kernel
theorem dX5_tick_5 : decode cX5_tick 5 = .ok (.iload_n 1, 1) := by decide +kernel
theorem dX5_tick_6 : decode cX5_tick 6 = .ok (.iconst 0, 1) := by decide +kernel
theorem dX5_tick_7 : decode cX5_tick 7 = .ok (.sipush 500, 3) := by decide +kernel
theorem dX5_tick_10 : decode cX5_tick 10 = .ok (.invokestatic 110, 3) := by decide +kernel
theorem dX5_tick_13 : decode cX5_tick 13 = .ok (.ifCond .eq 15, 3) := by decide +kernel
theorem dX5_tick_16 : decode cX5_tick 16 = .ok (.aload_n 0, 1) := by decide +kernel
theorem dX5_tick_17 : decode cX5_tick 17 = .ok (.getfield 127, 3) := by decide +kernel
theorem dX5_tick_20 : decode cX5_tick 20 = .ok (.iload_n 1, 1) := by decide +kernel
theorem dX5_tick_21 : decode cX5_tick 21 = .ok (.iadd, 1) := by decide +kernel
theorem dX5_tick_22 : decode cX5_tick 22 = .ok (.sipush 5000, 3) := by decide +kernel
theorem dX5_tick_25 : decode cX5_tick 25 = .ok (.if_icmp .le 5, 3) := by decide +kernel
theorem dX5_tick_28 : decode cX5_tick 28 = .ok (.iconst (-1), 1) := by decide +kernel
theorem dX5_tick_29 : decode cX5_tick 29 = .ok (.ireturn, 1) := by decide +kernel
theorem dX5_tick_30 : decode cX5_tick 30 = .ok (.iconst 0, 1) := by decide +kernel
theorem dX5_tick_31 : decode cX5_tick 31 = .ok (.istore_n 2, 1) := by decide +kernel
theorem dX5_tick_32 : decode cX5_tick 32 = .ok (.iload_n 2, 1) := by decide +kernel
theorem dX5_tick_33 : decode cX5_tick 33 = .ok (.iload_n 1, 1) := by decide +kernel
theorem dX5_tick_34 : decode cX5_tick 34 = .ok (.if_icmp .ge 13, 3) := by decide +kernel
theorem dX5_tick_37 : decode cX5_tick 37 = .ok (.aload_n 0, 1) := by decide +kernel
theorem dX5_tick_38 : decode cX5_tick 38 = .ok (.invokevirtual 165, 3) := by decide +kernel
theorem dX5_tick_41 : decode cX5_tick 41 = .ok (.iinc 2 1, 3) := by decide +kernel
theorem dX5_tick_44 : decode cX5_tick 44 = .ok (.goto (-12), 3) := by decide +kernel
theorem dX5_tick_47 : decode cX5_tick 47 = .ok (.aload_n 0, 1) := by decide +kernel
theorem dX5_tick_48 : decode cX5_tick 48 = .ok (.getfield 127, 3) := by decide +kernel
theorem dX5_tick_51 : decode cX5_tick 51 = .ok (.ireturn, 1) := by decide +kernel
theorem dX5_told_0 : decode cX5_told 0 = .ok (.aload_n 0, 1) := by decide +kernel
theorem dX5_told_1 : decode cX5_told 1 = .ok (.iload_n 1, 1) := by decide +kernel
theorem dX5_told_2 : decode cX5_told 2 = .ok (.ifCond .lt 21, 3) := by decide +kernel
theorem dX5_told_5 : decode cX5_told 5 = .ok (.iload_n 1, 1) := by decide +kernel
theorem dX5_told_6 : decode cX5_told 6 = .ok (.aload_n 0, 1) := by decide +kernel
theorem dX5_told_7 : decode cX5_told 7 = .ok (.getfield 107, 3) := by decide +kernel
theorem dX5_told_10 : decode cX5_told 10 = .ok (.if_icmp .ge 13, 3) := by decide +kernel
theorem dX5_told_13 : decode cX5_told 13 = .ok (.iload_n 2, 1) := by decide +kernel
theorem dX5_told_14 : decode cX5_told 14 = .ok (.iconst 0, 1) := by decide +kernel
theorem dX5_told_15 : decode cX5_told 15 = .ok (.bipush 7, 2) := by decide +kernel
theorem dX5_told_17 : decode cX5_told 17 = .ok (.invokestatic 110, 3) := by decide +kernel
theorem dX5_told_20 : decode cX5_told 20 = .ok (.ifCond .ne 7, 3) := by decide +kernel
theorem dX5_told_23 : decode cX5_told 23 = .ok (.iconst 1, 1) := by decide +kernel
theorem dX5_told_24 : decode cX5_told 24 = .ok (.goto 4, 3) := by decide +kernel
theorem dX5_told_27 : decode cX5_told 27 = .ok (.iconst 0, 1) := by decide +kernel
theorem dX5_told_28 : decode cX5_told 28 = .ok (.putfield 101, 3) := by decide +kernel
theorem dX5_told_31 : decode cX5_told 31 = .ok (.aload_n 0, 1) := by decide +kernel
theorem dX5_told_32 : decode cX5_told 32 = .ok (.getfield 101, 3) := by decide +kernel
theorem dX5_told_35 : decode cX5_told 35 = .ok (.ifCond .le 5, 3) := by decide +kernel
theorem dX5_told_38 : decode cX5_told 38 = .ok (.iconst 0, 1) := by decide +kernel
theorem dX5_told_39 : decode cX5_told 39 = .ok (.ireturn, 1) := by decide +kernel
theorem dX5_told_40 : decode cX5_told 40 = .ok (.iload_n 2, 1) := by decide +kernel
theorem dX5_told_41 : decode cX5_told 41 = .ok (.tableswitch 92 0 6 #[43, 50, 57, 64, 71, 78, 85], 43) := by decide +kernel
theorem dX5_told_84 : decode cX5_told 84 = .ok (.aload_n 0, 1) := by decide +kernel
theorem dX5_told_85 : decode cX5_told 85 = .ok (.getfield 53, 3) := by decide +kernel
theorem dX5_told_88 : decode cX5_told 88 = .ok (.iload_n 1, 1) := by decide +kernel
theorem dX5_told_89 : decode cX5_told 89 = .ok (.iaload, 1) := by decide +kernel
theorem dX5_told_90 : decode cX5_told 90 = .ok (.ireturn, 1) := by decide +kernel
theorem dX5_told_91 : decode cX5_told 91 = .ok (.aload_n 0, 1) := by decide +kernel
theorem dX5_told_92 : decode cX5_told 92 = .ok (.getfield 56, 3) := by decide +kernel
theorem dX5_told_95 : decode cX5_told 95 = .ok (.iload_n 1, 1) := by decide +kernel
theorem dX5_told_96 : decode cX5_told 96 = .ok (.iaload, 1) := by decide +kernel
theorem dX5_told_97 : decode cX5_told 97 = .ok (.ireturn, 1) := by decide +kernel
theorem dX5_told_98 : decode cX5_told 98 = .ok (.aload_n 0, 1) := by decide +kernel
theorem dX5_told_99 : decode cX5_told 99 = .ok (.getfield 59, 3) := by decide +kernel
theorem dX5_told_102 : decode cX5_told 102 = .ok (.iload_n 1, 1) := by decide +kernel
theorem dX5_told_103 : decode cX5_told 103 = .ok (.iaload, 1) := by decide +kernel
theorem dX5_told_104 : decode cX5_told 104 = .ok (.ireturn, 1) := by decide +kernel
theorem dX5_told_105 : decode cX5_told 105 = .ok (.aload_n 0, 1) := by decide +kernel
theorem dX5_told_106 : decode cX5_told 106 = .ok (.getfield 62, 3) := by decide +kernel
theorem dX5_told_109 : decode cX5_told 109 = .ok (.iload_n 1, 1) := by decide +kernel
theorem dX5_told_110 : decode cX5_told 110 = .ok (.iaload, 1) := by decide +kernel
theorem dX5_told_111 : decode cX5_told 111 = .ok (.ireturn, 1) := by decide +kernel
theorem dX5_told_112 : decode cX5_told 112 = .ok (.aload_n 0, 1) := by decide +kernel
theorem dX5_told_113 : decode cX5_told 113 = .ok (.getfield 65, 3) := by decide +kernel
theorem dX5_told_116 : decode cX5_told 116 = .ok (.iload_n 1, 1) := by decide +kernel
theorem dX5_told_117 : decode cX5_told 117 = .ok (.iaload, 1) := by decide +kernel
theorem dX5_told_118 : decode cX5_told 118 = .ok (.ireturn, 1) := by decide +kernel
theorem dX5_told_119 : decode cX5_told 119 = .ok (.aload_n 0, 1) := by decide +kernel
theorem dX5_told_120 : decode cX5_told 120 = .ok (.getfield 68, 3) := by decide +kernel
theorem dX5_told_123 : decode cX5_told 123 = .ok (.iload_n 1, 1) := by decide +kernel
theorem dX5_told_124 : decode cX5_told 124 = .ok (.iaload, 1) := by decide +kernel
theorem dX5_told_125 : decode cX5_told 125 = .ok (.ireturn, 1) := by decide +kernel
theorem dX5_told_126 : decode cX5_told 126 = .ok (.aload_n 0, 1) := by decide +kernel
theorem dX5_told_127 : decode cX5_told 127 = .ok (.getfield 74, 3) := by decide +kernel
theorem dX5_told_130 : decode cX5_told 130 = .ok (.iload_n 1, 1) := by decide +kernel
theorem dX5_told_131 : decode cX5_told 131 = .ok (.iaload, 1) := by decide +kernel
theorem dX5_told_132 : decode cX5_told 132 = .ok (.ireturn, 1) := by decide +kernel
theorem dX5_told_133 : decode cX5_told 133 = .ok (.aload_n 0, 1) := by decide +kernel
theorem dX5_told_134 : decode cX5_told 134 = .ok (.getfield 77, 3) := by decide +kernel
theorem dX5_told_137 : decode cX5_told 137 = .ok (.iload_n 1, 1) := by decide +kernel
theorem dX5_told_138 : decode cX5_told 138 = .ok (.iaload, 1) := by decide +kernel
theorem dX5_told_139 : decode cX5_told 139 = .ok (.ireturn, 1) := by decide +kernel
theorem dX5_waiting_0 : decode cX5_waiting 0 = .ok (.aload_n 0, 1) := by decide +kernel
theorem dX5_waiting_1 : decode cX5_waiting 1 = .ok (.iconst 0, 1) := by decide +kernel
theorem dX5_waiting_2 : decode cX5_waiting 2 = .ok (.putfield 101, 3) := by decide +kernel
theorem dX5_waiting_5 : decode cX5_waiting 5 = .ok (.iload_n 1, 1) := by decide +kernel
theorem dX5_waiting_6 : decode cX5_waiting 6 = .ok (.invokestatic 114, 3) := by decide +kernel
theorem dX5_waiting_9 : decode cX5_waiting 9 = .ok (.ifCond .ne 5, 3) := by decide +kernel
theorem dX5_waiting_12 : decode cX5_waiting 12 = .ok (.iconst (-1), 1) := by decide +kernel
theorem dX5_waiting_13 : decode cX5_waiting 13 = .ok (.ireturn, 1) := by decide +kernel
theorem dX5_waiting_14 : decode cX5_waiting 14 = .ok (.iconst 0, 1) := by decide +kernel
theorem dX5_waiting_15 : decode cX5_waiting 15 = .ok (.istore_n 2, 1) := by decide +kernel
theorem dX5_waiting_16 : decode cX5_waiting 16 = .ok (.iconst 0, 1) := by decide +kernel
theorem dX5_waiting_17 : decode cX5_waiting 17 = .ok (.istore_n 3, 1) := by decide +kernel
theorem dX5_waiting_18 : decode cX5_waiting 18 = .ok (.iload_n 3, 1) := by decide +kernel
theorem dX5_waiting_19 : decode cX5_waiting 19 = .ok (.aload_n 0, 1) := by decide +kernel
theorem dX5_waiting_20 : decode cX5_waiting 20 = .ok (.getfield 107, 3) := by decide +kernel
theorem dX5_waiting_23 : decode cX5_waiting 23 = .ok (.if_icmp .ge 37, 3) := by decide +kernel
theorem dX5_waiting_26 : decode cX5_waiting 26 = .ok (.iload_n 2, 1) := by decide +kernel
theorem dX5_waiting_27 : decode cX5_waiting 27 = .ok (.aload_n 0, 1) := by decide +kernel
theorem dX5_waiting_28 : decode cX5_waiting 28 = .ok (.getfield 59, 3) := by decide +kernel
theorem dX5_waiting_31 : decode cX5_waiting 31 = .ok (.iload_n 3, 1) := by decide +kernel
theorem dX5_waiting_32 : decode cX5_waiting 32 = .ok (.iaload, 1) := by decide +kernel
theorem dX5_waiting_33 : decode cX5_waiting 33 = .ok (.iload_n 1, 1) := by decide +kernel
theorem dX5_waiting_34 : decode cX5_waiting 34 = .ok (.if_icmp .ne 17, 3) := by decide +kernel
theorem dX5_waiting_37 : decode cX5_waiting 37 = .ok (.aload_n 0, 1) := by decide +kernel
theorem dX5_waiting_38 : decode cX5_waiting 38 = .ok (.getfield 74, 3) := by decide +kernel
theorem dX5_waiting_41 : decode cX5_waiting 41 = .ok (.iload_n 3, 1) := by decide +kernel
theorem dX5_waiting_42 : decode cX5_waiting 42 = .ok (.iaload, 1) := by decide +kernel
theorem dX5_waiting_43 : decode cX5_waiting 43 = .ok (.iconst (-1), 1) := by decide +kernel
theorem dX5_waiting_44 : decode cX5_waiting 44 = .ok (.if_icmp .ne 7, 3) := by decide +kernel
theorem dX5_waiting_47 : decode cX5_waiting 47 = .ok (.iconst 1, 1) := by decide +kernel
theorem dX5_waiting_48 : decode cX5_waiting 48 = .ok (.goto 4, 3) := by decide +kernel
theorem dX5_waiting_51 : decode cX5_waiting 51 = .ok (.iconst 0, 1) := by decide +kernel
theorem dX5_waiting_52 : decode cX5_waiting 52 = .ok (.iadd, 1) := by decide +kernel
theorem dX5_waiting_53 : decode cX5_waiting 53 = .ok (.istore_n 2, 1) := by decide +kernel
theorem dX5_waiting_54 : decode cX5_waiting 54 = .ok (.iinc 3 1, 3) := by decide +kernel
theorem dX5_waiting_57 : decode cX5_waiting 57 = .ok (.goto (-39), 3) := by decide +kernel
theorem dX5_waiting_60 : decode cX5_waiting 60 = .ok (.iload_n 2, 1) := by decide +kernel
theorem dX5_waiting_61 : decode cX5_waiting 61 = .ok (.ireturn, 1) := by decide +kernel
theorem dX5_fares_0 : decode cX5_fares 0 = .ok (.aload_n 0, 1) := by decide +kernel
theorem dX5_fares_1 : decode cX5_fares 1 = .ok (.iconst 0, 1) := by decide +kernel
theorem dX5_fares_2 : decode cX5_fares 2 = .ok (.putfield 101, 3) := by decide +kernel
theorem dX5_fares_5 : decode cX5_fares 5 = .ok (.aload_n 0, 1) := by decide +kernel
theorem dX5_fares_6 : decode cX5_fares 6 = .ok (.iload_n 1, 1) := by decide +kernel
theorem dX5_fares_7 : decode cX5_fares 7 = .ok (.invokevirtual 121, 3) := by decide +kernel
theorem dX5_fares_10 : decode cX5_fares 10 = .ok (.ifCond .eq 12, 3) := by decide +kernel
theorem dX5_fares_13 : decode cX5_fares 13 = .ok (.aload_n 0, 1) := by decide +kernel
theorem dX5_fares_14 : decode cX5_fares 14 = .ok (.getfield 25, 3) := by decide +kernel
theorem dX5_fares_17 : decode cX5_fares 17 = .ok (.iload_n 1, 1) := by decide +kernel
theorem dX5_fares_18 : decode cX5_fares 18 = .ok (.iaload, 1) := by decide +kernel
theorem dX5_fares_19 : decode cX5_fares 19 = .ok (.goto 4, 3) := by decide +kernel
theorem dX5_fares_22 : decode cX5_fares 22 = .ok (.iconst (-1), 1) := by decide +kernel
theorem dX5_fares_23 : decode cX5_fares 23 = .ok (.ireturn, 1) := by decide +kernel
theorem dX5_room_0 : decode cX5_room 0 = .ok (.aload_n 0, 1) := by decide +kernel
theorem dX5_room_1 : decode cX5_room 1 = .ok (.iconst 0, 1) := by decide +kernel
theorem dX5_room_2 : decode cX5_room 2 = .ok (.putfield 101, 3) := by decide +kernel
theorem dX5_room_5 : decode cX5_room 5 = .ok (.aload_n 0, 1) := by decide +kernel
theorem dX5_room_6 : decode cX5_room 6 = .ok (.iload_n 1, 1) := by decide +kernel
theorem dX5_room_7 : decode cX5_room 7 = .ok (.invokevirtual 121, 3) := by decide +kernel
theorem dX5_room_10 : decode cX5_room 10 = .ok (.ifCond .eq 32, 3) := by decide +kernel
theorem dX5_room_13 : decode cX5_room 13 = .ok (.iload_n 2, 1) := by decide +kernel
theorem dX5_room_14 : decode cX5_room 14 = .ok (.iconst 0, 1) := by decide +kernel
theorem dX5_room_15 : decode cX5_room 15 = .ok (.sipush 300, 3) := by decide +kernel
theorem dX5_room_18 : decode cX5_room 18 = .ok (.invokestatic 110, 3) := by decide +kernel
theorem dX5_room_21 : decode cX5_room 21 = .ok (.ifCond .eq 21, 3) := by decide +kernel
theorem dX5_room_24 : decode cX5_room 24 = .ok (.aload_n 0, 1) := by decide +kernel
theorem dX5_room_25 : decode cX5_room 25 = .ok (.iload_n 1, 1) := by decide +kernel
theorem dX5_room_26 : decode cX5_room 26 = .ok (.iload_n 2, 1) := by decide +kernel
theorem dX5_room_27 : decode cX5_room 27 = .ok (.invokevirtual 133, 3) := by decide +kernel
theorem dX5_room_30 : decode cX5_room 30 = .ok (.ifCond .eq 12, 3) := by decide +kernel
theorem dX5_room_33 : decode cX5_room 33 = .ok (.aload_n 0, 1) := by decide +kernel
theorem dX5_room_34 : decode cX5_room 34 = .ok (.iload_n 1, 1) := by decide +kernel
theorem dX5_room_35 : decode cX5_room 35 = .ok (.iload_n 2, 1) := by decide +kernel
theorem dX5_room_36 : decode cX5_room 36 = .ok (.invokevirtual 158, 3) := by decide +kernel
theorem dX5_room_39 : decode cX5_room 39 = .ok (.goto 4, 3) := by decide +kernel
theorem dX5_room_42 : decode cX5_room 42 = .ok (.iconst (-1), 1) := by decide +kernel
theorem dX5_room_43 : decode cX5_room 43 = .ok (.ireturn, 1) := by decide +kernel
theorem dX5_walk_0 : decode cX5_walk 0 = .ok (.aload_n 0, 1) := by decide +kernel
theorem dX5_walk_1 : decode cX5_walk 1 = .ok (.iconst 0, 1) := by decide +kernel
theorem dX5_walk_2 : decode cX5_walk 2 = .ok (.putfield 101, 3) := by decide +kernel
theorem dX5_walk_5 : decode cX5_walk 5 = .ok (.iload_n 1, 1) := by decide +kernel
theorem dX5_walk_6 : decode cX5_walk 6 = .ok (.iconst 0, 1) := by decide +kernel
theorem dX5_walk_7 : decode cX5_walk 7 = .ok (.bipush 8, 2) := by decide +kernel
theorem dX5_walk_9 : decode cX5_walk 9 = .ok (.invokestatic 110, 3) := by decide +kernel
theorem dX5_walk_12 : decode cX5_walk 12 = .ok (.ifCond .eq 28, 3) := by decide +kernel
theorem dX5_walk_15 : decode cX5_walk 15 = .ok (.iload_n 2, 1) := by decide +kernel
theorem dX5_walk_16 : decode cX5_walk 16 = .ok (.iconst 0, 1) := by decide +kernel
theorem dX5_walk_17 : decode cX5_walk 17 = .ok (.bipush 8, 2) := by decide +kernel
theorem dX5_walk_19 : decode cX5_walk 19 = .ok (.invokestatic 110, 3) := by decide +kernel
theorem dX5_walk_22 : decode cX5_walk 22 = .ok (.ifCond .eq 18, 3) := by decide +kernel
theorem dX5_walk_25 : decode cX5_walk 25 = .ok (.iload_n 1, 1) := by decide +kernel
theorem dX5_walk_26 : decode cX5_walk 26 = .ok (.iload_n 2, 1) := by decide +kernel
theorem dX5_walk_27 : decode cX5_walk 27 = .ok (.if_icmp .eq 13, 3) := by decide +kernel
theorem dX5_walk_30 : decode cX5_walk 30 = .ok (.iload_n 3, 1) := by decide +kernel
theorem dX5_walk_31 : decode cX5_walk 31 = .ok (.iconst 0, 1) := by decide +kernel
theorem dX5_walk_32 : decode cX5_walk 32 = .ok (.bipush 60, 2) := by decide +kernel
theorem dX5_walk_34 : decode cX5_walk 34 = .ok (.invokestatic 110, 3) := by decide +kernel
theorem dX5_walk_37 : decode cX5_walk 37 = .ok (.ifCond .ne 5, 3) := by decide +kernel
theorem dX5_walk_40 : decode cX5_walk 40 = .ok (.iconst 0, 1) := by decide +kernel
theorem dX5_walk_41 : decode cX5_walk 41 = .ok (.ireturn, 1) := by decide +kernel
theorem dX5_walk_42 : decode cX5_walk 42 = .ok (.aload_n 0, 1) := by decide +kernel
theorem dX5_walk_43 : decode cX5_walk 43 = .ok (.getfield 80, 3) := by decide +kernel
theorem dX5_walk_46 : decode cX5_walk 46 = .ok (.bipush 9, 2) := by decide +kernel
theorem dX5_walk_48 : decode cX5_walk 48 = .ok (.iload_n 1, 1) := by decide +kernel
theorem dX5_walk_49 : decode cX5_walk 49 = .ok (.imul, 1) := by decide +kernel
theorem dX5_walk_50 : decode cX5_walk 50 = .ok (.iload_n 2, 1) := by decide +kernel
theorem dX5_walk_51 : decode cX5_walk 51 = .ok (.iadd, 1) := by decide +kernel
theorem dX5_walk_52 : decode cX5_walk 52 = .ok (.iload_n 3, 1) := by decide +kernel
theorem dX5_walk_53 : decode cX5_walk 53 = .ok (.iastore, 1) := by decide +kernel
theorem dX5_walk_54 : decode cX5_walk 54 = .ok (.aload_n 0, 1) := by decide +kernel
theorem dX5_walk_55 : decode cX5_walk 55 = .ok (.getfield 80, 3) := by decide +kernel
theorem dX5_walk_58 : decode cX5_walk 58 = .ok (.bipush 9, 2) := by decide +kernel
theorem dX5_walk_60 : decode cX5_walk 60 = .ok (.iload_n 2, 1) := by decide +kernel
theorem dX5_walk_61 : decode cX5_walk 61 = .ok (.imul, 1) := by decide +kernel
theorem dX5_walk_62 : decode cX5_walk 62 = .ok (.iload_n 1, 1) := by decide +kernel
theorem dX5_walk_63 : decode cX5_walk 63 = .ok (.iadd, 1) := by decide +kernel
theorem dX5_walk_64 : decode cX5_walk 64 = .ok (.iload_n 3, 1) := by decide +kernel
theorem dX5_walk_65 : decode cX5_walk 65 = .ok (.iastore, 1) := by decide +kernel
theorem dX5_walk_66 : decode cX5_walk 66 = .ok (.iconst 1, 1) := by decide +kernel
theorem dX5_walk_67 : decode cX5_walk 67 = .ok (.ireturn, 1) := by decide +kernel
theorem dX5_errand_0 : decode cX5_errand 0 = .ok (.aload_n 0, 1) := by decide +kernel
theorem dX5_errand_1 : decode cX5_errand 1 = .ok (.iconst 0, 1) := by decide +kernel
theorem dX5_errand_2 : decode cX5_errand 2 = .ok (.putfield 101, 3) := by decide +kernel
theorem dX5_errand_5 : decode cX5_errand 5 = .ok (.iload_n 1, 1) := by decide +kernel
theorem dX5_errand_6 : decode cX5_errand 6 = .ok (.iconst 1, 1) := by decide +kernel
theorem dX5_errand_7 : decode cX5_errand 7 = .ok (.bipush 8, 2) := by decide +kernel
theorem dX5_errand_9 : decode cX5_errand 9 = .ok (.invokestatic 110, 3) := by decide +kernel
theorem dX5_errand_12 : decode cX5_errand 12 = .ok (.ifCond .eq 23, 3) := by decide +kernel
theorem dX5_errand_15 : decode cX5_errand 15 = .ok (.iload_n 2, 1) := by decide +kernel
theorem dX5_errand_16 : decode cX5_errand 16 = .ok (.iconst 0, 1) := by decide +kernel
theorem dX5_errand_17 : decode cX5_errand 17 = .ok (.bipush 60, 2) := by decide +kernel
theorem dX5_errand_19 : decode cX5_errand 19 = .ok (.invokestatic 110, 3) := by decide +kernel
theorem dX5_errand_22 : decode cX5_errand 22 = .ok (.ifCond .eq 13, 3) := by decide +kernel
theorem dX5_errand_25 : decode cX5_errand 25 = .ok (.iload_n 3, 1) := by decide +kernel
theorem dX5_errand_26 : decode cX5_errand 26 = .ok (.iconst 0, 1) := by decide +kernel
theorem dX5_errand_27 : decode cX5_errand 27 = .ok (.bipush 100, 2) := by decide +kernel
theorem dX5_errand_29 : decode cX5_errand 29 = .ok (.invokestatic 110, 3) := by decide +kernel
theorem dX5_errand_32 : decode cX5_errand 32 = .ok (.ifCond .ne 5, 3) := by decide +kernel
theorem dX5_errand_35 : decode cX5_errand 35 = .ok (.iconst 0, 1) := by decide +kernel
theorem dX5_errand_36 : decode cX5_errand 36 = .ok (.ireturn, 1) := by decide +kernel
theorem dX5_errand_37 : decode cX5_errand 37 = .ok (.aload_n 0, 1) := by decide +kernel
theorem dX5_errand_38 : decode cX5_errand 38 = .ok (.getfield 83, 3) := by decide +kernel
theorem dX5_errand_41 : decode cX5_errand 41 = .ok (.iload_n 1, 1) := by decide +kernel
theorem dX5_errand_42 : decode cX5_errand 42 = .ok (.iload_n 2, 1) := by decide +kernel
theorem dX5_errand_43 : decode cX5_errand 43 = .ok (.iastore, 1) := by decide +kernel
theorem dX5_errand_44 : decode cX5_errand 44 = .ok (.aload_n 0, 1) := by decide +kernel
theorem dX5_errand_45 : decode cX5_errand 45 = .ok (.getfield 86, 3) := by decide +kernel
theorem dX5_errand_48 : decode cX5_errand 48 = .ok (.iload_n 1, 1) := by decide +kernel
theorem dX5_errand_49 : decode cX5_errand 49 = .ok (.iload_n 3, 1) := by decide +kernel
theorem dX5_errand_50 : decode cX5_errand 50 = .ok (.iastore, 1) := by decide +kernel
theorem dX5_errand_51 : decode cX5_errand 51 = .ok (.aload_n 0, 1) := by decide +kernel
theorem dX5_errand_52 : decode cX5_errand 52 = .ok (.getfield 95, 3) := by decide +kernel
theorem dX5_errand_55 : decode cX5_errand 55 = .ok (.iload_n 1, 1) := by decide +kernel
theorem dX5_errand_56 : decode cX5_errand 56 = .ok (.iconst 1, 1) := by decide +kernel
theorem dX5_errand_57 : decode cX5_errand 57 = .ok (.bastore, 1) := by decide +kernel
theorem dX5_errand_58 : decode cX5_errand 58 = .ok (.iconst 1, 1) := by decide +kernel
theorem dX5_errand_59 : decode cX5_errand 59 = .ok (.ireturn, 1) := by decide +kernel
theorem dX5_clear_0 : decode cX5_clear 0 = .ok (.aload_n 0, 1) := by decide +kernel
theorem dX5_clear_1 : decode cX5_clear 1 = .ok (.iconst 0, 1) := by decide +kernel
theorem dX5_clear_2 : decode cX5_clear 2 = .ok (.putfield 101, 3) := by decide +kernel
theorem dX5_clear_5 : decode cX5_clear 5 = .ok (.iconst 0, 1) := by decide +kernel
theorem dX5_clear_6 : decode cX5_clear 6 = .ok (.istore_n 1, 1) := by decide +kernel
theorem dX5_clear_7 : decode cX5_clear 7 = .ok (.iload_n 1, 1) := by decide +kernel
theorem dX5_clear_8 : decode cX5_clear 8 = .ok (.bipush 9, 2) := by decide +kernel
theorem dX5_clear_10 : decode cX5_clear 10 = .ok (.if_icmp .ge 16, 3) := by decide +kernel
theorem dX5_clear_13 : decode cX5_clear 13 = .ok (.aload_n 0, 1) := by decide +kernel
theorem dX5_clear_14 : decode cX5_clear 14 = .ok (.getfield 95, 3) := by decide +kernel
theorem dX5_clear_17 : decode cX5_clear 17 = .ok (.iload_n 1, 1) := by decide +kernel
theorem dX5_clear_18 : decode cX5_clear 18 = .ok (.iconst 0, 1) := by decide +kernel
theorem dX5_clear_19 : decode cX5_clear 19 = .ok (.bastore, 1) := by decide +kernel
theorem dX5_clear_20 : decode cX5_clear 20 = .ok (.iinc 1 1, 3) := by decide +kernel
theorem dX5_clear_23 : decode cX5_clear 23 = .ok (.goto (-16), 3) := by decide +kernel
theorem dX5_clear_26 : decode cX5_clear 26 = .ok (.return_, 1) := by decide +kernel
theorem dX5_goes_0 : decode cX5_goes 0 = .ok (.iload_n 3, 1) := by decide +kernel
theorem dX5_goes_1 : decode cX5_goes 1 = .ok (.iload_n 1, 1) := by decide +kernel
theorem dX5_goes_2 : decode cX5_goes 2 = .ok (.ifCond .ne 7, 3) := by decide +kernel
theorem dX5_goes_5 : decode cX5_goes 5 = .ok (.iconst 0, 1) := by decide +kernel
theorem dX5_goes_6 : decode cX5_goes 6 = .ok (.goto 12, 3) := by decide +kernel
theorem dX5_goes_9 : decode cX5_goes 9 = .ok (.aload_n 0, 1) := by decide +kernel
theorem dX5_goes_10 : decode cX5_goes 10 = .ok (.getfield 80, 3) := by decide +kernel
theorem dX5_goes_13 : decode cX5_goes 13 = .ok (.bipush 9, 2) := by decide +kernel
theorem dX5_goes_15 : decode cX5_goes 15 = .ok (.iload_n 2, 1) := by decide +kernel
theorem dX5_goes_16 : decode cX5_goes 16 = .ok (.imul, 1) := by decide +kernel
theorem dX5_goes_17 : decode cX5_goes 17 = .ok (.iaload, 1) := by decide +kernel
theorem dX5_goes_18 : decode cX5_goes 18 = .ok (.iadd, 1) := by decide +kernel
theorem dX5_goes_19 : decode cX5_goes 19 = .ok (.istore 5, 2) := by decide +kernel
theorem dX5_goes_21 : decode cX5_goes 21 = .ok (.iload 5, 2) := by decide +kernel
theorem dX5_goes_23 : decode cX5_goes 23 = .ok (.aload_n 0, 1) := by decide +kernel
theorem dX5_goes_24 : decode cX5_goes 24 = .ok (.getfield 168, 3) := by decide +kernel
theorem dX5_goes_27 : decode cX5_goes 27 = .ok (.if_icmp .gt 84, 3) := by decide +kernel
theorem dX5_goes_30 : decode cX5_goes 30 = .ok (.aload_n 0, 1) := by decide +kernel
theorem dX5_goes_31 : decode cX5_goes 31 = .ok (.getfield 171, 3) := by decide +kernel
theorem dX5_goes_34 : decode cX5_goes 34 = .ok (.iconst (-1), 1) := by decide +kernel
theorem dX5_goes_35 : decode cX5_goes 35 = .ok (.if_icmp .eq 30, 3) := by decide +kernel
theorem dX5_goes_38 : decode cX5_goes 38 = .ok (.iload 4, 2) := by decide +kernel
theorem dX5_goes_40 : decode cX5_goes 40 = .ok (.aload_n 0, 1) := by decide +kernel
theorem dX5_goes_41 : decode cX5_goes 41 = .ok (.getfield 174, 3) := by decide +kernel
theorem dX5_goes_44 : decode cX5_goes 44 = .ok (.if_icmp .gt 21, 3) := by decide +kernel
theorem dX5_goes_47 : decode cX5_goes 47 = .ok (.iload 4, 2) := by decide +kernel
theorem dX5_goes_49 : decode cX5_goes 49 = .ok (.aload_n 0, 1) := by decide +kernel
theorem dX5_goes_50 : decode cX5_goes 50 = .ok (.getfield 174, 3) := by decide +kernel
theorem dX5_goes_53 : decode cX5_goes 53 = .ok (.if_icmp .ne 58, 3) := by decide +kernel
theorem dX5_goes_56 : decode cX5_goes 56 = .ok (.iload 5, 2) := by decide +kernel
theorem dX5_goes_58 : decode cX5_goes 58 = .ok (.aload_n 0, 1) := by decide +kernel
theorem dX5_goes_59 : decode cX5_goes 59 = .ok (.getfield 177, 3) := by decide +kernel
theorem dX5_goes_62 : decode cX5_goes 62 = .ok (.if_icmp .ge 49, 3) := by decide +kernel
theorem dX5_goes_65 : decode cX5_goes 65 = .ok (.aload_n 0, 1) := by decide +kernel
theorem dX5_goes_66 : decode cX5_goes 66 = .ok (.iload_n 1, 1) := by decide +kernel
theorem dX5_goes_67 : decode cX5_goes 67 = .ok (.putfield 171, 3) := by decide +kernel
theorem dX5_goes_70 : decode cX5_goes 70 = .ok (.aload_n 0, 1) := by decide +kernel
theorem dX5_goes_71 : decode cX5_goes 71 = .ok (.iload 4, 2) := by decide +kernel
theorem dX5_goes_73 : decode cX5_goes 73 = .ok (.putfield 174, 3) := by decide +kernel
theorem dX5_goes_76 : decode cX5_goes 76 = .ok (.aload_n 0, 1) := by decide +kernel
theorem dX5_goes_77 : decode cX5_goes 77 = .ok (.iload 5, 2) := by decide +kernel
theorem dX5_goes_79 : decode cX5_goes 79 = .ok (.putfield 177, 3) := by decide +kernel
theorem dX5_goes_82 : decode cX5_goes 82 = .ok (.iconst 0, 1) := by decide +kernel
theorem dX5_goes_83 : decode cX5_goes 83 = .ok (.istore 6, 2) := by decide +kernel
theorem dX5_goes_85 : decode cX5_goes 85 = .ok (.iload 6, 2) := by decide +kernel
theorem dX5_goes_87 : decode cX5_goes 87 = .ok (.iload_n 1, 1) := by decide +kernel
theorem dX5_goes_88 : decode cX5_goes 88 = .ok (.if_icmp .ge 23, 3) := by decide +kernel
theorem dX5_goes_91 : decode cX5_goes 91 = .ok (.aload_n 0, 1) := by decide +kernel
theorem dX5_goes_92 : decode cX5_goes 92 = .ok (.getfield 92, 3) := by decide +kernel
theorem dX5_goes_95 : decode cX5_goes 95 = .ok (.iload 6, 2) := by decide +kernel
theorem dX5_goes_97 : decode cX5_goes 97 = .ok (.aload_n 0, 1) := by decide +kernel
theorem dX5_goes_98 : decode cX5_goes 98 = .ok (.getfield 89, 3) := by decide +kernel
theorem dX5_goes_101 : decode cX5_goes 101 = .ok (.iload 6, 2) := by decide +kernel
theorem dX5_goes_103 : decode cX5_goes 103 = .ok (.iaload, 1) := by decide +kernel
theorem dX5_goes_104 : decode cX5_goes 104 = .ok (.iastore, 1) := by decide +kernel
theorem dX5_goes_105 : decode cX5_goes 105 = .ok (.iinc 6 1, 3) := by decide +kernel
theorem dX5_goes_108 : decode cX5_goes 108 = .ok (.goto (-23), 3) := by decide +kernel
theorem dX5_goes_111 : decode cX5_goes 111 = .ok (.iconst 1, 1) := by decide +kernel
theorem dX5_goes_112 : decode cX5_goes 112 = .ok (.istore 6, 2) := by decide +kernel
theorem dX5_goes_114 : decode cX5_goes 114 = .ok (.iload 6, 2) := by decide +kernel
theorem dX5_goes_116 : decode cX5_goes 116 = .ok (.bipush 9, 2) := by decide +kernel
theorem dX5_goes_118 : decode cX5_goes 118 = .ok (.if_icmp .ge 110, 3) := by decide +kernel
theorem dX5_goes_121 : decode cX5_goes 121 = .ok (.iload_n 3, 1) := by decide +kernel
theorem dX5_goes_122 : decode cX5_goes 122 = .ok (.aload_n 0, 1) := by decide +kernel
theorem dX5_goes_123 : decode cX5_goes 123 = .ok (.getfield 80, 3) := by decide +kernel
theorem dX5_goes_126 : decode cX5_goes 126 = .ok (.bipush 9, 2) := by decide +kernel
theorem dX5_goes_128 : decode cX5_goes 128 = .ok (.iload_n 2, 1) := by decide +kernel
theorem dX5_goes_129 : decode cX5_goes 129 = .ok (.imul, 1) := by decide +kernel
theorem dX5_goes_130 : decode cX5_goes 130 = .ok (.iload 6, 2) := by decide +kernel
theorem dX5_goes_132 : decode cX5_goes 132 = .ok (.iadd, 1) := by decide +kernel
theorem dX5_goes_133 : decode cX5_goes 133 = .ok (.iaload, 1) := by decide +kernel
theorem dX5_goes_134 : decode cX5_goes 134 = .ok (.iadd, 1) := by decide +kernel
theorem dX5_goes_135 : decode cX5_goes 135 = .ok (.aload_n 0, 1) := by decide +kernel
theorem dX5_goes_136 : decode cX5_goes 136 = .ok (.getfield 83, 3) := by decide +kernel
theorem dX5_goes_139 : decode cX5_goes 139 = .ok (.iload 6, 2) := by decide +kernel
theorem dX5_goes_141 : decode cX5_goes 141 = .ok (.iaload, 1) := by decide +kernel
theorem dX5_goes_142 : decode cX5_goes 142 = .ok (.iadd, 1) := by decide +kernel
theorem dX5_goes_143 : decode cX5_goes 143 = .ok (.istore 7, 2) := by decide +kernel
theorem dX5_goes_145 : decode cX5_goes 145 = .ok (.aload_n 0, 1) := by decide +kernel
theorem dX5_goes_146 : decode cX5_goes 146 = .ok (.getfield 95, 3) := by decide +kernel
theorem dX5_goes_149 : decode cX5_goes 149 = .ok (.iload 6, 2) := by decide +kernel
theorem dX5_goes_151 : decode cX5_goes 151 = .ok (.baload, 1) := by decide +kernel
theorem dX5_goes_152 : decode cX5_goes 152 = .ok (.ifCond .eq 70, 3) := by decide +kernel
theorem dX5_goes_155 : decode cX5_goes 155 = .ok (.aload_n 0, 1) := by decide +kernel
theorem dX5_goes_156 : decode cX5_goes 156 = .ok (.getfield 98, 3) := by decide +kernel
theorem dX5_goes_159 : decode cX5_goes 159 = .ok (.iload 6, 2) := by decide +kernel
theorem dX5_goes_161 : decode cX5_goes 161 = .ok (.baload, 1) := by decide +kernel
theorem dX5_goes_162 : decode cX5_goes 162 = .ok (.ifCond .ne 60, 3) := by decide +kernel
theorem dX5_goes_165 : decode cX5_goes 165 = .ok (.iload 7, 2) := by decide +kernel
theorem dX5_goes_167 : decode cX5_goes 167 = .ok (.aload_n 0, 1) := by decide +kernel
theorem dX5_goes_168 : decode cX5_goes 168 = .ok (.getfield 168, 3) := by decide +kernel
theorem dX5_goes_171 : decode cX5_goes 171 = .ok (.if_icmp .le 6, 3) := by decide +kernel
theorem dX5_goes_174 : decode cX5_goes 174 = .ok (.goto 48, 3) := by decide +kernel
theorem dX5_goes_177 : decode cX5_goes 177 = .ok (.aload_n 0, 1) := by decide +kernel
theorem dX5_goes_178 : decode cX5_goes 178 = .ok (.getfield 98, 3) := by decide +kernel
theorem dX5_goes_181 : decode cX5_goes 181 = .ok (.iload 6, 2) := by decide +kernel
theorem dX5_goes_183 : decode cX5_goes 183 = .ok (.iconst 1, 1) := by decide +kernel
theorem dX5_goes_184 : decode cX5_goes 184 = .ok (.bastore, 1) := by decide +kernel
theorem dX5_goes_185 : decode cX5_goes 185 = .ok (.aload_n 0, 1) := by decide +kernel
theorem dX5_goes_186 : decode cX5_goes 186 = .ok (.getfield 89, 3) := by decide +kernel
theorem dX5_goes_189 : decode cX5_goes 189 = .ok (.iload_n 1, 1) := by decide +kernel
theorem dX5_goes_190 : decode cX5_goes 190 = .ok (.iload 6, 2) := by decide +kernel
theorem dX5_goes_192 : decode cX5_goes 192 = .ok (.iastore, 1) := by decide +kernel
theorem dX5_goes_193 : decode cX5_goes 193 = .ok (.aload_n 0, 1) := by decide +kernel
theorem dX5_goes_194 : decode cX5_goes 194 = .ok (.iload_n 1, 1) := by decide +kernel
theorem dX5_goes_195 : decode cX5_goes 195 = .ok (.iconst 1, 1) := by decide +kernel
theorem dX5_goes_196 : decode cX5_goes 196 = .ok (.iadd, 1) := by decide +kernel
theorem dX5_goes_197 : decode cX5_goes 197 = .ok (.iload 6, 2) := by decide +kernel
theorem dX5_goes_199 : decode cX5_goes 199 = .ok (.iload 7, 2) := by decide +kernel
theorem dX5_goes_201 : decode cX5_goes 201 = .ok (.iload 4, 2) := by decide +kernel
theorem dX5_goes_203 : decode cX5_goes 203 = .ok (.aload_n 0, 1) := by decide +kernel
theorem dX5_goes_204 : decode cX5_goes 204 = .ok (.getfield 86, 3) := by decide +kernel
theorem dX5_goes_207 : decode cX5_goes 207 = .ok (.iload 6, 2) := by decide +kernel
theorem dX5_goes_209 : decode cX5_goes 209 = .ok (.iaload, 1) := by decide +kernel
theorem dX5_goes_210 : decode cX5_goes 210 = .ok (.iadd, 1) := by decide +kernel
theorem dX5_goes_211 : decode cX5_goes 211 = .ok (.invokevirtual 180, 3) := by decide +kernel
theorem dX5_goes_214 : decode cX5_goes 214 = .ok (.aload_n 0, 1) := by decide +kernel
theorem dX5_goes_215 : decode cX5_goes 215 = .ok (.getfield 98, 3) := by decide +kernel
theorem dX5_goes_218 : decode cX5_goes 218 = .ok (.iload 6, 2) := by decide +kernel
theorem dX5_goes_220 : decode cX5_goes 220 = .ok (.iconst 0, 1) := by decide +kernel
theorem dX5_goes_221 : decode cX5_goes 221 = .ok (.bastore, 1) := by decide +kernel
theorem dX5_goes_222 : decode cX5_goes 222 = .ok (.iinc 6 1, 3) := by decide +kernel
theorem dX5_goes_225 : decode cX5_goes 225 = .ok (.goto (-111), 3) := by decide +kernel
theorem dX5_goes_228 : decode cX5_goes 228 = .ok (.return_, 1) := by decide +kernel
theorem dX5_finds_0 : decode cX5_finds 0 = .ok (.aload_n 0, 1) := by decide +kernel
theorem dX5_finds_1 : decode cX5_finds 1 = .ok (.iconst 0, 1) := by decide +kernel
theorem dX5_finds_2 : decode cX5_finds 2 = .ok (.putfield 101, 3) := by decide +kernel
theorem dX5_finds_5 : decode cX5_finds 5 = .ok (.iload_n 1, 1) := by decide +kernel
theorem dX5_finds_6 : decode cX5_finds 6 = .ok (.iconst 0, 1) := by decide +kernel
theorem dX5_finds_7 : decode cX5_finds 7 = .ok (.sipush 500, 3) := by decide +kernel
theorem dX5_finds_10 : decode cX5_finds 10 = .ok (.invokestatic 110, 3) := by decide +kernel
theorem dX5_finds_13 : decode cX5_finds 13 = .ok (.ifCond .ne 5, 3) := by decide +kernel
theorem dX5_finds_16 : decode cX5_finds 16 = .ok (.iconst 0, 1) := by decide +kernel
theorem dX5_finds_17 : decode cX5_finds 17 = .ok (.ireturn, 1) := by decide +kernel
theorem dX5_finds_18 : decode cX5_finds 18 = .ok (.aload_n 0, 1) := by decide +kernel
theorem dX5_finds_19 : decode cX5_finds 19 = .ok (.iload_n 1, 1) := by decide +kernel
theorem dX5_finds_20 : decode cX5_finds 20 = .ok (.putfield 168, 3) := by decide +kernel
theorem dX5_finds_23 : decode cX5_finds 23 = .ok (.aload_n 0, 1) := by decide +kernel
theorem dX5_finds_24 : decode cX5_finds 24 = .ok (.iconst (-1), 1) := by decide +kernel
theorem dX5_finds_25 : decode cX5_finds 25 = .ok (.putfield 171, 3) := by decide +kernel
theorem dX5_finds_28 : decode cX5_finds 28 = .ok (.aload_n 0, 1) := by decide +kernel
theorem dX5_finds_29 : decode cX5_finds 29 = .ok (.iconst 0, 1) := by decide +kernel
theorem dX5_finds_30 : decode cX5_finds 30 = .ok (.iconst 0, 1) := by decide +kernel
theorem dX5_finds_31 : decode cX5_finds 31 = .ok (.iconst 0, 1) := by decide +kernel
theorem dX5_finds_32 : decode cX5_finds 32 = .ok (.iconst 0, 1) := by decide +kernel
theorem dX5_finds_33 : decode cX5_finds 33 = .ok (.invokevirtual 180, 3) := by decide +kernel
theorem dX5_finds_36 : decode cX5_finds 36 = .ok (.iconst 1, 1) := by decide +kernel
theorem dX5_finds_37 : decode cX5_finds 37 = .ok (.ireturn, 1) := by decide +kernel
theorem dX5_best_0 : decode cX5_best 0 = .ok (.aload_n 0, 1) := by decide +kernel
theorem dX5_best_1 : decode cX5_best 1 = .ok (.iload_n 1, 1) := by decide +kernel
theorem dX5_best_2 : decode cX5_best 2 = .ok (.invokevirtual 184, 3) := by decide +kernel
theorem dX5_best_5 : decode cX5_best 5 = .ok (.ifCond .eq 12, 3) := by decide +kernel
theorem dX5_best_8 : decode cX5_best 8 = .ok (.iload_n 2, 1) := by decide +kernel
theorem dX5_best_9 : decode cX5_best 9 = .ok (.iconst 0, 1) := by decide +kernel
theorem dX5_best_10 : decode cX5_best 10 = .ok (.iconst 2, 1) := by decide +kernel
theorem dX5_best_11 : decode cX5_best 11 = .ok (.invokestatic 110, 3) := by decide +kernel
theorem dX5_best_14 : decode cX5_best 14 = .ok (.ifCond .ne 5, 3) := by decide +kernel
theorem dX5_best_17 : decode cX5_best 17 = .ok (.iconst (-1), 1) := by decide +kernel
theorem dX5_best_18 : decode cX5_best 18 = .ok (.ireturn, 1) := by decide +kernel
theorem dX5_best_19 : decode cX5_best 19 = .ok (.iload_n 2, 1) := by decide +kernel
theorem dX5_best_20 : decode cX5_best 20 = .ok (.ifCond .ne 10, 3) := by decide +kernel
theorem dX5_best_23 : decode cX5_best 23 = .ok (.aload_n 0, 1) := by decide +kernel
theorem dX5_best_24 : decode cX5_best 24 = .ok (.getfield 174, 3) := by decide +kernel
theorem dX5_best_27 : decode cX5_best 27 = .ok (.goto 19, 3) := by decide +kernel
theorem dX5_best_30 : decode cX5_best 30 = .ok (.iload_n 2, 1) := by decide +kernel
theorem dX5_best_31 : decode cX5_best 31 = .ok (.iconst 1, 1) := by decide +kernel
theorem dX5_best_32 : decode cX5_best 32 = .ok (.if_icmp .ne 10, 3) := by decide +kernel
theorem dX5_best_35 : decode cX5_best 35 = .ok (.aload_n 0, 1) := by decide +kernel
theorem dX5_best_36 : decode cX5_best 36 = .ok (.getfield 177, 3) := by decide +kernel
theorem dX5_best_39 : decode cX5_best 39 = .ok (.goto 7, 3) := by decide +kernel
theorem dX5_best_42 : decode cX5_best 42 = .ok (.aload_n 0, 1) := by decide +kernel
theorem dX5_best_43 : decode cX5_best 43 = .ok (.getfield 171, 3) := by decide +kernel
theorem dX5_best_46 : decode cX5_best 46 = .ok (.ireturn, 1) := by decide +kernel
theorem dX5_round_0 : decode cX5_round 0 = .ok (.aload_n 0, 1) := by decide +kernel
theorem dX5_round_1 : decode cX5_round 1 = .ok (.iload_n 1, 1) := by decide +kernel
theorem dX5_round_2 : decode cX5_round 2 = .ok (.invokevirtual 184, 3) := by decide +kernel
theorem dX5_round_5 : decode cX5_round 5 = .ok (.ifCond .eq 24, 3) := by decide +kernel
theorem dX5_round_8 : decode cX5_round 8 = .ok (.iload_n 2, 1) := by decide +kernel
theorem dX5_round_9 : decode cX5_round 9 = .ok (.ifCond .lt 20, 3) := by decide +kernel
theorem dX5_round_12 : decode cX5_round 12 = .ok (.iload_n 2, 1) := by decide +kernel
theorem dX5_round_13 : decode cX5_round 13 = .ok (.aload_n 0, 1) := by decide +kernel
theorem dX5_round_14 : decode cX5_round 14 = .ok (.getfield 171, 3) := by decide +kernel
theorem dX5_round_17 : decode cX5_round 17 = .ok (.if_icmp .ge 12, 3) := by decide +kernel
theorem dX5_round_20 : decode cX5_round 20 = .ok (.aload_n 0, 1) := by decide +kernel
theorem dX5_round_21 : decode cX5_round 21 = .ok (.getfield 92, 3) := by decide +kernel
theorem dX5_round_24 : decode cX5_round 24 = .ok (.iload_n 2, 1) := by decide +kernel
theorem dX5_round_25 : decode cX5_round 25 = .ok (.iaload, 1) := by decide +kernel
theorem dX5_round_26 : decode cX5_round 26 = .ok (.goto 4, 3) := by decide +kernel
theorem dX5_round_29 : decode cX5_round 29 = .ok (.iconst (-1), 1) := by decide +kernel
theorem dX5_round_30 : decode cX5_round 30 = .ok (.ireturn, 1) := by decide +kernel
theorem dX5_count_0 : decode cX5_count 0 = .ok (.aload_n 0, 1) := by decide +kernel
theorem dX5_count_1 : decode cX5_count 1 = .ok (.iconst 0, 1) := by decide +kernel
theorem dX5_count_2 : decode cX5_count 2 = .ok (.putfield 101, 3) := by decide +kernel
theorem dX5_count_5 : decode cX5_count 5 = .ok (.iconst 0, 1) := by decide +kernel
theorem dX5_count_6 : decode cX5_count 6 = .ok (.istore_n 2, 1) := by decide +kernel
theorem dX5_count_7 : decode cX5_count 7 = .ok (.iload_n 1, 1) := by decide +kernel
theorem dX5_count_8 : decode cX5_count 8 = .ok (.tableswitch 200 0 7 #[48, 53, 58, 63, 99, 135, 140, 167], 48) := by decide +kernel
theorem dX5_count_56 : decode cX5_count 56 = .ok (.aload_n 0, 1) := by decide +kernel
theorem dX5_count_57 : decode cX5_count 57 = .ok (.getfield 127, 3) := by decide +kernel
theorem dX5_count_60 : decode cX5_count 60 = .ok (.ireturn, 1) := by decide +kernel
theorem dX5_count_61 : decode cX5_count 61 = .ok (.aload_n 0, 1) := by decide +kernel
theorem dX5_count_62 : decode cX5_count 62 = .ok (.getfield 104, 3) := by decide +kernel
theorem dX5_count_65 : decode cX5_count 65 = .ok (.ireturn, 1) := by decide +kernel
theorem dX5_count_66 : decode cX5_count 66 = .ok (.aload_n 0, 1) := by decide +kernel
theorem dX5_count_67 : decode cX5_count 67 = .ok (.getfield 107, 3) := by decide +kernel
theorem dX5_count_70 : decode cX5_count 70 = .ok (.ireturn, 1) := by decide +kernel
theorem dX5_count_71 : decode cX5_count 71 = .ok (.iconst 0, 1) := by decide +kernel
theorem dX5_count_72 : decode cX5_count 72 = .ok (.istore_n 3, 1) := by decide +kernel
theorem dX5_count_73 : decode cX5_count 73 = .ok (.iload_n 3, 1) := by decide +kernel
theorem dX5_count_74 : decode cX5_count 74 = .ok (.aload_n 0, 1) := by decide +kernel
theorem dX5_count_75 : decode cX5_count 75 = .ok (.getfield 107, 3) := by decide +kernel
theorem dX5_count_78 : decode cX5_count 78 = .ok (.if_icmp .ge 27, 3) := by decide +kernel
theorem dX5_count_81 : decode cX5_count 81 = .ok (.iload_n 2, 1) := by decide +kernel
theorem dX5_count_82 : decode cX5_count 82 = .ok (.aload_n 0, 1) := by decide +kernel
theorem dX5_count_83 : decode cX5_count 83 = .ok (.getfield 74, 3) := by decide +kernel
theorem dX5_count_86 : decode cX5_count 86 = .ok (.iload_n 3, 1) := by decide +kernel
theorem dX5_count_87 : decode cX5_count 87 = .ok (.iaload, 1) := by decide +kernel
theorem dX5_count_88 : decode cX5_count 88 = .ok (.iconst (-1), 1) := by decide +kernel
theorem dX5_count_89 : decode cX5_count 89 = .ok (.if_icmp .eq 7, 3) := by decide +kernel
theorem dX5_count_92 : decode cX5_count 92 = .ok (.iconst 1, 1) := by decide +kernel
theorem dX5_count_93 : decode cX5_count 93 = .ok (.goto 4, 3) := by decide +kernel
theorem dX5_count_96 : decode cX5_count 96 = .ok (.iconst 0, 1) := by decide +kernel
theorem dX5_count_97 : decode cX5_count 97 = .ok (.iadd, 1) := by decide +kernel
theorem dX5_count_98 : decode cX5_count 98 = .ok (.istore_n 2, 1) := by decide +kernel
theorem dX5_count_99 : decode cX5_count 99 = .ok (.iinc 3 1, 3) := by decide +kernel
theorem dX5_count_102 : decode cX5_count 102 = .ok (.goto (-29), 3) := by decide +kernel
theorem dX5_count_105 : decode cX5_count 105 = .ok (.iload_n 2, 1) := by decide +kernel
theorem dX5_count_106 : decode cX5_count 106 = .ok (.ireturn, 1) := by decide +kernel
theorem dX5_count_107 : decode cX5_count 107 = .ok (.iconst 0, 1) := by decide +kernel
theorem dX5_count_108 : decode cX5_count 108 = .ok (.istore_n 3, 1) := by decide +kernel
theorem dX5_count_109 : decode cX5_count 109 = .ok (.iload_n 3, 1) := by decide +kernel
theorem dX5_count_110 : decode cX5_count 110 = .ok (.aload_n 0, 1) := by decide +kernel
theorem dX5_count_111 : decode cX5_count 111 = .ok (.getfield 107, 3) := by decide +kernel
theorem dX5_count_114 : decode cX5_count 114 = .ok (.if_icmp .ge 27, 3) := by decide +kernel
theorem dX5_count_117 : decode cX5_count 117 = .ok (.iload_n 2, 1) := by decide +kernel
theorem dX5_count_118 : decode cX5_count 118 = .ok (.aload_n 0, 1) := by decide +kernel
theorem dX5_count_119 : decode cX5_count 119 = .ok (.getfield 62, 3) := by decide +kernel
theorem dX5_count_122 : decode cX5_count 122 = .ok (.iload_n 3, 1) := by decide +kernel
theorem dX5_count_123 : decode cX5_count 123 = .ok (.iaload, 1) := by decide +kernel
theorem dX5_count_124 : decode cX5_count 124 = .ok (.iconst (-1), 1) := by decide +kernel
theorem dX5_count_125 : decode cX5_count 125 = .ok (.if_icmp .eq 7, 3) := by decide +kernel
theorem dX5_count_128 : decode cX5_count 128 = .ok (.iconst 1, 1) := by decide +kernel
theorem dX5_count_129 : decode cX5_count 129 = .ok (.goto 4, 3) := by decide +kernel
theorem dX5_count_132 : decode cX5_count 132 = .ok (.iconst 0, 1) := by decide +kernel
theorem dX5_count_133 : decode cX5_count 133 = .ok (.iadd, 1) := by decide +kernel
theorem dX5_count_134 : decode cX5_count 134 = .ok (.istore_n 2, 1) := by decide +kernel
theorem dX5_count_135 : decode cX5_count 135 = .ok (.iinc 3 1, 3) := by decide +kernel
theorem dX5_count_138 : decode cX5_count 138 = .ok (.goto (-29), 3) := by decide +kernel
theorem dX5_count_141 : decode cX5_count 141 = .ok (.iload_n 2, 1) := by decide +kernel
theorem dX5_count_142 : decode cX5_count 142 = .ok (.ireturn, 1) := by decide +kernel
theorem dX5_count_143 : decode cX5_count 143 = .ok (.aload_n 0, 1) := by decide +kernel
theorem dX5_count_144 : decode cX5_count 144 = .ok (.getfield 130, 3) := by decide +kernel
theorem dX5_count_147 : decode cX5_count 147 = .ok (.ireturn, 1) := by decide +kernel
theorem dX5_count_148 : decode cX5_count 148 = .ok (.iconst 0, 1) := by decide +kernel
theorem dX5_count_149 : decode cX5_count 149 = .ok (.istore_n 3, 1) := by decide +kernel
theorem dX5_count_150 : decode cX5_count 150 = .ok (.iload_n 3, 1) := by decide +kernel
theorem dX5_count_151 : decode cX5_count 151 = .ok (.aload_n 0, 1) := by decide +kernel
theorem dX5_count_152 : decode cX5_count 152 = .ok (.getfield 104, 3) := by decide +kernel
theorem dX5_count_155 : decode cX5_count 155 = .ok (.if_icmp .ge 18, 3) := by decide +kernel
theorem dX5_count_158 : decode cX5_count 158 = .ok (.iload_n 2, 1) := by decide +kernel
theorem dX5_count_159 : decode cX5_count 159 = .ok (.aload_n 0, 1) := by decide +kernel
theorem dX5_count_160 : decode cX5_count 160 = .ok (.getfield 25, 3) := by decide +kernel
theorem dX5_count_163 : decode cX5_count 163 = .ok (.iload_n 3, 1) := by decide +kernel
theorem dX5_count_164 : decode cX5_count 164 = .ok (.iaload, 1) := by decide +kernel
theorem dX5_count_165 : decode cX5_count 165 = .ok (.iadd, 1) := by decide +kernel
theorem dX5_count_166 : decode cX5_count 166 = .ok (.istore_n 2, 1) := by decide +kernel
theorem dX5_count_167 : decode cX5_count 167 = .ok (.iinc 3 1, 3) := by decide +kernel
theorem dX5_count_170 : decode cX5_count 170 = .ok (.goto (-20), 3) := by decide +kernel
theorem dX5_count_173 : decode cX5_count 173 = .ok (.iload_n 2, 1) := by decide +kernel
theorem dX5_count_174 : decode cX5_count 174 = .ok (.ireturn, 1) := by decide +kernel
theorem dX5_count_175 : decode cX5_count 175 = .ok (.iconst 0, 1) := by decide +kernel
theorem dX5_count_176 : decode cX5_count 176 = .ok (.istore_n 3, 1) := by decide +kernel
theorem dX5_count_177 : decode cX5_count 177 = .ok (.iload_n 3, 1) := by decide +kernel
theorem dX5_count_178 : decode cX5_count 178 = .ok (.bipush 9, 2) := by decide +kernel
theorem dX5_count_180 : decode cX5_count 180 = .ok (.if_icmp .ge 26, 3) := by decide +kernel
theorem dX5_count_183 : decode cX5_count 183 = .ok (.iload_n 2, 1) := by decide +kernel
theorem dX5_count_184 : decode cX5_count 184 = .ok (.aload_n 0, 1) := by decide +kernel
theorem dX5_count_185 : decode cX5_count 185 = .ok (.getfield 95, 3) := by decide +kernel
theorem dX5_count_188 : decode cX5_count 188 = .ok (.iload_n 3, 1) := by decide +kernel
theorem dX5_count_189 : decode cX5_count 189 = .ok (.baload, 1) := by decide +kernel
theorem dX5_count_190 : decode cX5_count 190 = .ok (.ifCond .eq 7, 3) := by decide +kernel
theorem dX5_count_193 : decode cX5_count 193 = .ok (.iconst 1, 1) := by decide +kernel
theorem dX5_count_194 : decode cX5_count 194 = .ok (.goto 4, 3) := by decide +kernel
theorem dX5_count_197 : decode cX5_count 197 = .ok (.iconst 0, 1) := by decide +kernel
theorem dX5_count_198 : decode cX5_count 198 = .ok (.iadd, 1) := by decide +kernel
theorem dX5_count_199 : decode cX5_count 199 = .ok (.istore_n 2, 1) := by decide +kernel
theorem dX5_count_200 : decode cX5_count 200 = .ok (.iinc 3 1, 3) := by decide +kernel
theorem dX5_count_203 : decode cX5_count 203 = .ok (.goto (-26), 3) := by decide +kernel
theorem dX5_count_206 : decode cX5_count 206 = .ok (.iload_n 2, 1) := by decide +kernel
theorem dX5_count_207 : decode cX5_count 207 = .ok (.ireturn, 1) := by decide +kernel
theorem dX5_count_208 : decode cX5_count 208 = .ok (.iconst (-1), 1) := by decide +kernel
theorem dX5_count_209 : decode cX5_count 209 = .ok (.ireturn, 1) := by decide +kernel
