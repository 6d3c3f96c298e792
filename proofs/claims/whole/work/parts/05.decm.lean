theorem dX7_init_0 : decode cX7_init 0 = .ok (.aload_n 0, 1) := by decide +kernel
theorem dX7_init_1 : decode cX7_init 1 = .ok (.invokespecial 1, 3) := by decide +kernel
theorem dX7_init_4 : decode cX7_init 4 = .ok (.aload_n 0, 1) := by decide +kernel
theorem dX7_init_5 : decode cX7_init 5 = .ok (.sipush 400, 3) := by decide +kernel
theorem dX7_init_8 : decode cX7_init 8 = .ok (.newarray .int, 2) := by decide +kernel
theorem dX7_init_10 : decode cX7_init 10 = .ok (.putfield 7, 3) := by decide +kernel
theorem dX7_init_13 : decode cX7_init 13 = .ok (.aload_n 0, 1) := by decide +kernel
theorem dX7_init_14 : decode cX7_init 14 = .ok (.iconst 4, 1) := by decide +kernel
theorem dX7_init_15 : decode cX7_init 15 = .ok (.newarray .int, 2) := by decide +kernel
theorem dX7_init_17 : decode cX7_init 17 = .ok (.putfield 13, 3) := by decide +kernel
theorem dX7_init_20 : decode cX7_init 20 = .ok (.aload_n 0, 1) := by decide +kernel
theorem dX7_init_21 : decode cX7_init 21 = .ok (.bipush 96, 2) := by decide +kernel
theorem dX7_init_23 : decode cX7_init 23 = .ok (.newarray .int, 2) := by decide +kernel
theorem dX7_init_25 : decode cX7_init 25 = .ok (.putfield 16, 3) := by decide +kernel
theorem dX7_init_28 : decode cX7_init 28 = .ok (.aload_n 0, 1) := by decide +kernel
theorem dX7_init_29 : decode cX7_init 29 = .ok (.bipush 96, 2) := by decide +kernel
theorem dX7_init_31 : decode cX7_init 31 = .ok (.newarray .boolean, 2) := by decide +kernel
theorem dX7_init_33 : decode cX7_init 33 = .ok (.putfield 19, 3) := by decide +kernel
theorem dX7_init_36 : decode cX7_init 36 = .ok (.aload_n 0, 1) := by decide +kernel
theorem dX7_init_37 : decode cX7_init 37 = .ok (.bipush 96, 2) := by decide +kernel
theorem dX7_init_39 : decode cX7_init 39 = .ok (.newarray .int, 2) := by decide +kernel
theorem dX7_init_41 : decode cX7_init 41 = .ok (.putfield 23, 3) := by decide +kernel
theorem dX7_init_44 : decode cX7_init 44 = .ok (.aload_n 0, 1) := by decide +kernel
theorem dX7_init_45 : decode cX7_init 45 = .ok (.bipush 96, 2) := by decide +kernel
theorem dX7_init_47 : decode cX7_init 47 = .ok (.newarray .int, 2) := by decide +kernel
theorem dX7_init_49 : decode cX7_init 49 = .ok (.putfield 26, 3) := by decide +kernel
theorem dX7_init_52 : decode cX7_init 52 = .ok (.aload_n 0, 1) := by decide +kernel
theorem dX7_init_53 : decode cX7_init 53 = .ok (.iconst 4, 1) := by decide +kernel
theorem dX7_init_54 : decode cX7_init 54 = .ok (.newarray .int, 2) := by decide +kernel
theorem dX7_init_56 : decode cX7_init 56 = .ok (.putfield 29, 3) := by decide +kernel
theorem dX7_init_59 : decode cX7_init 59 = .ok (.aload_n 0, 1) := by decide +kernel
theorem dX7_init_60 : decode cX7_init 60 = .ok (.iconst (-1), 1) := by decide +kernel
theorem dX7_init_61 : decode cX7_init 61 = .ok (.putfield 32, 3) := by decide +kernel
theorem dX7_init_64 : decode cX7_init 64 = .ok (.aload_n 0, 1) := by decide +kernel
theorem dX7_init_65 : decode cX7_init 65 = .ok (.bipush 41, 2) := by decide +kernel
theorem dX7_init_67 : decode cX7_init 67 = .ok (.newarray .int, 2) := by decide +kernel
theorem dX7_init_69 : decode cX7_init 69 = .ok (.putfield 36, 3) := by decide +kernel
theorem dX7_init_72 : decode cX7_init 72 = .ok (.aload_n 0, 1) := by decide +kernel
theorem dX7_init_73 : decode cX7_init 73 = .ok (.bipush 42, 2) := by decide +kernel
theorem dX7_init_75 : decode cX7_init 75 = .ok (.newarray .int, 2) := by decide +kernel
theorem dX7_init_77 : decode cX7_init 77 = .ok (.putfield 39, 3) := by decide +kernel
theorem dX7_init_80 : decode cX7_init 80 = .ok (.aload_n 0, 1) := by decide +kernel
theorem dX7_init_81 : decode cX7_init 81 = .ok (.bipush 124, 2) := by decide +kernel
theorem dX7_init_83 : decode cX7_init 83 = .ok (.newarray .int, 2) := by decide +kernel
theorem dX7_init_85 : decode cX7_init 85 = .ok (.putfield 42, 3) := by decide +kernel
theorem dX7_init_88 : decode cX7_init 88 = .ok (.aload_n 0, 1) := by decide +kernel
theorem dX7_init_89 : decode cX7_init 89 = .ok (.bipush 124, 2) := by decide +kernel
theorem dX7_init_91 : decode cX7_init 91 = .ok (.newarray .int, 2) := by decide +kernel
theorem dX7_init_93 : decode cX7_init 93 = .ok (.putfield 45, 3) := by decide +kernel
theorem dX7_init_96 : decode cX7_init 96 = .ok (.aload_n 0, 1) := by decide +kernel
theorem dX7_init_97 : decode cX7_init 97 = .ok (.sipush 400, 3) := by decide +kernel
theorem dX7_init_100 : decode cX7_init 100 = .ok (.newarray .int, 2) := by decide +kernel
theorem dX7_init_102 : decode cX7_init 102 = .ok (.putfield 48, 3) := by decide +kernel
theorem dX7_init_105 : decode cX7_init 105 = .ok (.aload_n 0, 1) := by decide +kernel
theorem dX7_init_106 : decode cX7_init 106 = .ok (.bipush 41, 2) := by decide +kernel
theorem dX7_init_108 : decode cX7_init 108 = .ok (.newarray .int, 2) := by decide +kernel
theorem dX7_init_110 : decode cX7_init 110 = .ok (.putfield 51, 3) := by decide +kernel
theorem dX7_init_113 : decode cX7_init 113 = .ok (.aload_n 0, 1) := by decide +kernel
theorem dX7_init_114 : decode cX7_init 114 = .ok (.bipush 42, 2) := by decide +kernel
theorem dX7_init_116 : decode cX7_init 116 = .ok (.newarray .int, 2) := by decide +kernel
theorem dX7_init_118 : decode cX7_init 118 = .ok (.putfield 54, 3) := by decide +kernel
theorem dX7_init_121 : decode cX7_init 121 = .ok (.aload_n 0, 1) := by decide +kernel
theorem dX7_init_122 : decode cX7_init 122 = .ok (.bipush 124, 2) := by decide +kernel
theorem dX7_init_124 : decode cX7_init 124 = .ok (.newarray .int, 2) := by decide +kernel
theorem dX7_init_126 : decode cX7_init 126 = .ok (.putfield 57, 3) := by decide +kernel
theorem dX7_init_129 : decode cX7_init 129 = .ok (.aload_n 0, 1) := by decide +kernel
theorem dX7_init_130 : decode cX7_init 130 = .ok (.bipush 124, 2) := by decide +kernel
theorem dX7_init_132 : decode cX7_init 132 = .ok (.newarray .int, 2) := by decide +kernel
theorem dX7_init_134 : decode cX7_init 134 = .ok (.putfield 60, 3) := by decide +kernel
theorem dX7_init_137 : decode cX7_init 137 = .ok (.aload_n 0, 1) := by decide +kernel
theorem dX7_init_138 : decode cX7_init 138 = .ok (.sipush 400, 3) := by decide +kernel
theorem dX7_init_141 : decode cX7_init 141 = .ok (.newarray .int, 2) := by decide +kernel
theorem dX7_init_143 : decode cX7_init 143 = .ok (.putfield 63, 3) := by decide +kernel
theorem dX7_init_146 : decode cX7_init 146 = .ok (.aload_n 0, 1) := by decide +kernel
theorem dX7_init_147 : decode cX7_init 147 = .ok (.bipush 20, 2) := by decide +kernel
theorem dX7_init_149 : decode cX7_init 149 = .ok (.newarray .int, 2) := by decide +kernel
theorem dX7_init_151 : decode cX7_init 151 = .ok (.putfield 66, 3) := by decide +kernel
theorem dX7_init_154 : decode cX7_init 154 = .ok (.aload_n 0, 1) := by decide +kernel
theorem dX7_init_155 : decode cX7_init 155 = .ok (.bipush 20, 2) := by decide +kernel
theorem dX7_init_157 : decode cX7_init 157 = .ok (.newarray .int, 2) := by decide +kernel
theorem dX7_init_159 : decode cX7_init 159 = .ok (.putfield 69, 3) := by decide +kernel
theorem dX7_init_162 : decode cX7_init 162 = .ok (.aload_n 0, 1) := by decide +kernel
theorem dX7_init_163 : decode cX7_init 163 = .ok (.bipush 20, 2) := by decide +kernel
theorem dX7_init_165 : decode cX7_init 165 = .ok (.newarray .int, 2) := by decide +kernel
theorem dX7_init_167 : decode cX7_init 167 = .ok (.putfield 72, 3) := by decide +kernel
theorem dX7_init_170 : decode cX7_init 170 = .ok (.aload_n 0, 1) := by decide +kernel
theorem dX7_init_171 : decode cX7_init 171 = .ok (.bipush 20, 2) := by decide +kernel
theorem dX7_init_173 : decode cX7_init 173 = .ok (.newarray .int, 2) := by decide +kernel
theorem dX7_init_175 : decode cX7_init 175 = .ok (.putfield 75, 3) := by decide +kernel
theorem dX7_init_178 : decode cX7_init 178 = .ok (.aload_n 0, 1) := by decide +kernel
theorem dX7_init_179 : decode cX7_init 179 = .ok (.bipush 20, 2) := by decide +kernel
theorem dX7_init_181 : decode cX7_init 181 = .ok (.newarray .int, 2) := by decide +kernel
theorem dX7_init_183 : decode cX7_init 183 = .ok (.putfield 78, 3) := by decide +kernel
theorem dX7_init_186 : decode cX7_init 186 = .ok (.aload_n 0, 1) := by decide +kernel
theorem dX7_init_187 : decode cX7_init 187 = .ok (.bipush 20, 2) := by decide +kernel
theorem dX7_init_189 : decode cX7_init 189 = .ok (.newarray .int, 2) := by decide +kernel
theorem dX7_init_191 : decode cX7_init 191 = .ok (.putfield 81, 3) := by decide +kernel
theorem dX7_init_194 : decode cX7_init 194 = .ok (.aload_n 0, 1) := by decide +kernel
theorem dX7_init_195 : decode cX7_init 195 = .ok (.bipush 20, 2) := by decide +kernel
theorem dX7_init_197 : decode cX7_init 197 = .ok (.newarray .int, 2) := by decide +kernel
theorem dX7_init_199 : decode cX7_init 199 = .ok (.putfield 84, 3) := by decide +kernel
theorem dX7_init_202 : decode cX7_init 202 = .ok (.aload_n 0, 1) := by decide +kernel
theorem dX7_init_203 : decode cX7_init 203 = .ok (.bipush 20, 2) := by decide +kernel
theorem dX7_init_205 : decode cX7_init 205 = .ok (.newarray .int, 2) := by decide +kernel
theorem dX7_init_207 : decode cX7_init 207 = .ok (.putfield 87, 3) := by decide +kernel
theorem dX7_init_210 : decode cX7_init 210 = .ok (.aload_n 0, 1) := by decide +kernel
theorem dX7_init_211 : decode cX7_init 211 = .ok (.iconst 4, 1) := by decide +kernel
theorem dX7_init_212 : decode cX7_init 212 = .ok (.newarray .int, 2) := by decide +kernel
theorem dX7_init_214 : decode cX7_init 214 = .ok (.putfield 90, 3) := by decide +kernel
theorem dX7_init_217 : decode cX7_init 217 = .ok (.aload_n 0, 1) := by decide +kernel
theorem dX7_init_218 : decode cX7_init 218 = .ok (.iconst 4, 1) := by decide +kernel
theorem dX7_init_219 : decode cX7_init 219 = .ok (.newarray .int, 2) := by decide +kernel
theorem dX7_init_221 : decode cX7_init 221 = .ok (.putfield 93, 3) := by decide +kernel
theorem dX7_init_224 : decode cX7_init 224 = .ok (.aload_n 0, 1) := by decide +kernel
theorem dX7_init_225 : decode cX7_init 225 = .ok (.sipush 1200, 3) := by decide +kernel
theorem dX7_init_228 : decode cX7_init 228 = .ok (.newarray .int, 2) := by decide +kernel
theorem dX7_init_230 : decode cX7_init 230 = .ok (.putfield 96, 3) := by decide +kernel
theorem dX7_init_233 : decode cX7_init 233 = .ok (.aload_n 0, 1) := by decide +kernel
theorem dX7_init_234 : decode cX7_init 234 = .ok (.sipush 2400, 3) := by decide +kernel
theorem dX7_init_237 : decode cX7_init 237 = .ok (.newarray .int, 2) := by decide +kernel
theorem dX7_init_239 : decode cX7_init 239 = .ok (.putfield 99, 3) := by decide +kernel
theorem dX7_init_242 : decode cX7_init 242 = .ok (.iconst 0, 1) := by decide +kernel
theorem dX7_init_243 : decode cX7_init 243 = .ok (.istore_n 1, 1) := by decide +kernel
theorem dX7_init_244 : decode cX7_init 244 = .ok (.iload_n 1, 1) := by decide +kernel
theorem dX7_init_245 : decode cX7_init 245 = .ok (.iconst 4, 1) := by decide +kernel
theorem dX7_init_246 : decode cX7_init 246 = .ok (.if_icmp .ge 16, 3) := by decide +kernel
theorem dX7_init_249 : decode cX7_init 249 = .ok (.aload_n 0, 1) := by decide +kernel
theorem dX7_init_250 : decode cX7_init 250 = .ok (.getfield 29, 3) := by decide +kernel
theorem dX7_init_253 : decode cX7_init 253 = .ok (.iload_n 1, 1) := by decide +kernel
theorem dX7_init_254 : decode cX7_init 254 = .ok (.iconst (-1), 1) := by decide +kernel
theorem dX7_init_255 : decode cX7_init 255 = .ok (.iastore, 1) := by decide +kernel
theorem dX7_init_256 : decode cX7_init 256 = .ok (.iinc 1 1, 3) := by decide +kernel
theorem dX7_init_259 : decode cX7_init 259 = .ok (.goto (-15), 3) := by decide +kernel
theorem dX7_init_262 : decode cX7_init 262 = .ok (.return_, 1) := by decide +kernel
theorem dX7_thrown_0 : decode cX7_thrown 0 = .ok (.aload_n 0, 1) := by decide +kernel
theorem dX7_thrown_1 : decode cX7_thrown 1 = .ok (.getfield 102, 3) := by decide +kernel
theorem dX7_thrown_4 : decode cX7_thrown 4 = .ok (.ireturn, 1) := by decide +kernel
theorem dX7_type_0 : decode cX7_type 0 = .ok (.aload_n 0, 1) := by decide +kernel
theorem dX7_type_1 : decode cX7_type 1 = .ok (.iconst 0, 1) := by decide +kernel
theorem dX7_type_2 : decode cX7_type 2 = .ok (.putfield 102, 3) := by decide +kernel
theorem dX7_type_5 : decode cX7_type 5 = .ok (.aload_n 0, 1) := by decide +kernel
theorem dX7_type_6 : decode cX7_type 6 = .ok (.getfield 105, 3) := by decide +kernel
theorem dX7_type_9 : decode cX7_type 9 = .ok (.istore_n 3, 1) := by decide +kernel
theorem dX7_type_10 : decode cX7_type 10 = .ok (.bipush 7, 2) := by decide +kernel
theorem dX7_type_12 : decode cX7_type 12 = .ok (.istore 4, 2) := by decide +kernel
theorem dX7_type_14 : decode cX7_type 14 = .ok (.iload 4, 2) := by decide +kernel
theorem dX7_type_16 : decode cX7_type 16 = .ok (.ifCond .lt 67, 3) := by decide +kernel
theorem dX7_type_19 : decode cX7_type 19 = .ok (.lload_n 1, 1) := by decide +kernel
theorem dX7_type_20 : decode cX7_type 20 = .ok (.bipush 8, 2) := by decide +kernel
theorem dX7_type_22 : decode cX7_type 22 = .ok (.iload 4, 2) := by decide +kernel
theorem dX7_type_24 : decode cX7_type 24 = .ok (.imul, 1) := by decide +kernel
theorem dX7_type_25 : decode cX7_type 25 = .ok (.lshr, 1) := by decide +kernel
theorem dX7_type_26 : decode cX7_type 26 = .ok (.l2i, 1) := by decide +kernel
theorem dX7_type_27 : decode cX7_type 27 = .ok (.sipush 255, 3) := by decide +kernel
theorem dX7_type_30 : decode cX7_type 30 = .ok (.iand, 1) := by decide +kernel
theorem dX7_type_31 : decode cX7_type 31 = .ok (.istore 5, 2) := by decide +kernel
theorem dX7_type_33 : decode cX7_type 33 = .ok (.iload 5, 2) := by decide +kernel
theorem dX7_type_35 : decode cX7_type 35 = .ok (.ifCond .eq 26, 3) := by decide +kernel
theorem dX7_type_38 : decode cX7_type 38 = .ok (.iload 5, 2) := by decide +kernel
theorem dX7_type_40 : decode cX7_type 40 = .ok (.bipush 32, 2) := by decide +kernel
theorem dX7_type_42 : decode cX7_type 42 = .ok (.if_icmp .lt 17, 3) := by decide +kernel
theorem dX7_type_45 : decode cX7_type 45 = .ok (.iload 5, 2) := by decide +kernel
theorem dX7_type_47 : decode cX7_type 47 = .ok (.bipush 126, 2) := by decide +kernel
theorem dX7_type_49 : decode cX7_type 49 = .ok (.if_icmp .gt 10, 3) := by decide +kernel
theorem dX7_type_52 : decode cX7_type 52 = .ok (.iload_n 3, 1) := by decide +kernel
theorem dX7_type_53 : decode cX7_type 53 = .ok (.sipush 400, 3) := by decide +kernel
theorem dX7_type_56 : decode cX7_type 56 = .ok (.if_icmp .ne 5, 3) := by decide +kernel
theorem dX7_type_59 : decode cX7_type 59 = .ok (.iconst 0, 1) := by decide +kernel
theorem dX7_type_60 : decode cX7_type 60 = .ok (.ireturn, 1) := by decide +kernel
theorem dX7_type_61 : decode cX7_type 61 = .ok (.iload 5, 2) := by decide +kernel
theorem dX7_type_63 : decode cX7_type 63 = .ok (.ifCond .eq 14, 3) := by decide +kernel
theorem dX7_type_66 : decode cX7_type 66 = .ok (.aload_n 0, 1) := by decide +kernel
theorem dX7_type_67 : decode cX7_type 67 = .ok (.getfield 7, 3) := by decide +kernel
theorem dX7_type_70 : decode cX7_type 70 = .ok (.iload_n 3, 1) := by decide +kernel
theorem dX7_type_71 : decode cX7_type 71 = .ok (.iload 5, 2) := by decide +kernel
theorem dX7_type_73 : decode cX7_type 73 = .ok (.iastore, 1) := by decide +kernel
theorem dX7_type_74 : decode cX7_type 74 = .ok (.iinc 3 1, 3) := by decide +kernel
theorem dX7_type_77 : decode cX7_type 77 = .ok (.iinc 4 (-1), 3) := by decide +kernel
theorem dX7_type_80 : decode cX7_type 80 = .ok (.goto (-66), 3) := by decide +kernel
theorem dX7_type_83 : decode cX7_type 83 = .ok (.aload_n 0, 1) := by decide +kernel
theorem dX7_type_84 : decode cX7_type 84 = .ok (.iload_n 3, 1) := by decide +kernel
theorem dX7_type_85 : decode cX7_type 85 = .ok (.putfield 105, 3) := by decide +kernel
theorem dX7_type_88 : decode cX7_type 88 = .ok (.iconst 1, 1) := by decide +kernel
theorem dX7_type_89 : decode cX7_type 89 = .ok (.ireturn, 1) := by decide +kernel
theorem dX7_wipe_0 : decode cX7_wipe 0 = .ok (.aload_n 0, 1) := by decide +kernel
theorem dX7_wipe_1 : decode cX7_wipe 1 = .ok (.iconst 0, 1) := by decide +kernel
theorem dX7_wipe_2 : decode cX7_wipe 2 = .ok (.putfield 102, 3) := by decide +kernel
theorem dX7_wipe_5 : decode cX7_wipe 5 = .ok (.aload_n 0, 1) := by decide +kernel
theorem dX7_wipe_6 : decode cX7_wipe 6 = .ok (.iconst 0, 1) := by decide +kernel
theorem dX7_wipe_7 : decode cX7_wipe 7 = .ok (.putfield 105, 3) := by decide +kernel
theorem dX7_wipe_10 : decode cX7_wipe 10 = .ok (.return_, 1) := by decide +kernel
theorem dX7_length_0 : decode cX7_length 0 = .ok (.aload_n 0, 1) := by decide +kernel
theorem dX7_length_1 : decode cX7_length 1 = .ok (.iconst 0, 1) := by decide +kernel
theorem dX7_length_2 : decode cX7_length 2 = .ok (.putfield 102, 3) := by decide +kernel
theorem dX7_length_5 : decode cX7_length 5 = .ok (.aload_n 0, 1) := by decide +kernel
theorem dX7_length_6 : decode cX7_length 6 = .ok (.getfield 105, 3) := by decide +kernel
theorem dX7_length_9 : decode cX7_length 9 = .ok (.ireturn, 1) := by decide +kernel
theorem dX7_isType_0 : decode cX7_isType 0 = .ok (.iload_n 0, 1) := by decide +kernel
theorem dX7_isType_1 : decode cX7_isType 1 = .ok (.ifCond .lt 12, 3) := by decide +kernel
theorem dX7_isType_4 : decode cX7_isType 4 = .ok (.iload_n 0, 1) := by decide +kernel
theorem dX7_isType_5 : decode cX7_isType 5 = .ok (.iconst 4, 1) := by decide +kernel
theorem dX7_isType_6 : decode cX7_isType 6 = .ok (.if_icmp .ge 7, 3) := by decide +kernel
theorem dX7_isType_9 : decode cX7_isType 9 = .ok (.iconst 1, 1) := by decide +kernel
theorem dX7_isType_10 : decode cX7_isType 10 = .ok (.goto 4, 3) := by decide +kernel
theorem dX7_isType_13 : decode cX7_isType 13 = .ok (.iconst 0, 1) := by decide +kernel
theorem dX7_isType_14 : decode cX7_isType 14 = .ok (.ireturn, 1) := by decide +kernel
theorem dX7_isLetter_0 : decode cX7_isLetter 0 = .ok (.iload_n 0, 1) := by decide +kernel
theorem dX7_isLetter_1 : decode cX7_isLetter 1 = .ok (.bipush 65, 2) := by decide +kernel
theorem dX7_isLetter_3 : decode cX7_isLetter 3 = .ok (.if_icmp .lt 13, 3) := by decide +kernel
theorem dX7_isLetter_6 : decode cX7_isLetter 6 = .ok (.iload_n 0, 1) := by decide +kernel
theorem dX7_isLetter_7 : decode cX7_isLetter 7 = .ok (.bipush 90, 2) := by decide +kernel
theorem dX7_isLetter_9 : decode cX7_isLetter 9 = .ok (.if_icmp .gt 7, 3) := by decide +kernel
theorem dX7_isLetter_12 : decode cX7_isLetter 12 = .ok (.iconst 1, 1) := by decide +kernel
theorem dX7_isLetter_13 : decode cX7_isLetter 13 = .ok (.goto 4, 3) := by decide +kernel
theorem dX7_isLetter_16 : decode cX7_isLetter 16 = .ok (.iconst 0, 1) := by decide +kernel
theorem dX7_isLetter_17 : decode cX7_isLetter 17 = .ok (.ireturn, 1) := by decide +kernel
theorem dX7_isTag_0 : decode cX7_isTag 0 = .ok (.iload_n 0, 1) := by decide +kernel
theorem dX7_isTag_1 : decode cX7_isTag 1 = .ok (.ifCond .lt 42, 3) := by decide +kernel
theorem dX7_isTag_4 : decode cX7_isTag 4 = .ok (.iload_n 0, 1) := by decide +kernel
theorem dX7_isTag_5 : decode cX7_isTag 5 = .ok (.bipush 16, 2) := by decide +kernel
theorem dX7_isTag_7 : decode cX7_isTag 7 = .ok (.ishr, 1) := by decide +kernel
theorem dX7_isTag_8 : decode cX7_isTag 8 = .ok (.invokestatic 108, 3) := by decide +kernel
theorem dX7_isTag_11 : decode cX7_isTag 11 = .ok (.ifCond .eq 32, 3) := by decide +kernel
theorem dX7_isTag_14 : decode cX7_isTag 14 = .ok (.iload_n 0, 1) := by decide +kernel
theorem dX7_isTag_15 : decode cX7_isTag 15 = .ok (.bipush 8, 2) := by decide +kernel
theorem dX7_isTag_17 : decode cX7_isTag 17 = .ok (.ishr, 1) := by decide +kernel
theorem dX7_isTag_18 : decode cX7_isTag 18 = .ok (.sipush 255, 3) := by decide +kernel
theorem dX7_isTag_21 : decode cX7_isTag 21 = .ok (.iand, 1) := by decide +kernel
theorem dX7_isTag_22 : decode cX7_isTag 22 = .ok (.invokestatic 108, 3) := by decide +kernel
theorem dX7_isTag_25 : decode cX7_isTag 25 = .ok (.ifCond .eq 18, 3) := by decide +kernel
theorem dX7_isTag_28 : decode cX7_isTag 28 = .ok (.iload_n 0, 1) := by decide +kernel
theorem dX7_isTag_29 : decode cX7_isTag 29 = .ok (.sipush 255, 3) := by decide +kernel
theorem dX7_isTag_32 : decode cX7_isTag 32 = .ok (.iand, 1) := by decide +kernel
theorem dX7_isTag_33 : decode cX7_isTag 33 = .ok (.invokestatic 108, 3) := by decide +kernel
theorem dX7_isTag_36 : decode cX7_isTag 36 = .ok (.ifCond .eq 7, 3) := by decide +kernel
theorem dX7_isTag_39 : decode cX7_isTag 39 = .ok (.iconst 1, 1) := by decide +kernel
theorem dX7_isTag_40 : decode cX7_isTag 40 = .ok (.goto 4, 3) := by decide +kernel
theorem dX7_isTag_43 : decode cX7_isTag 43 = .ok (.iconst 0, 1) := by decide +kernel
theorem dX7_isTag_44 : decode cX7_isTag 44 = .ok (.ireturn, 1) := by decide +kernel
theorem dX7_isEnvelope_0 : decode cX7_isEnvelope 0 = .ok (.iload_n 0, 1) := by decide +kernel
theorem dX7_isEnvelope_1 : decode cX7_isEnvelope 1 = .ok (.ldc 112, 2) := by decide +kernel
theorem dX7_isEnvelope_3 : decode cX7_isEnvelope 3 = .ok (.if_icmp .eq 33, 3) := by decide +kernel
theorem dX7_isEnvelope_6 : decode cX7_isEnvelope 6 = .ok (.iload_n 0, 1) := by decide +kernel
theorem dX7_isEnvelope_7 : decode cX7_isEnvelope 7 = .ok (.ldc 113, 2) := by decide +kernel
theorem dX7_isEnvelope_9 : decode cX7_isEnvelope 9 = .ok (.if_icmp .eq 27, 3) := by decide +kernel
theorem dX7_isEnvelope_12 : decode cX7_isEnvelope 12 = .ok (.iload_n 0, 1) := by decide +kernel
theorem dX7_isEnvelope_13 : decode cX7_isEnvelope 13 = .ok (.ldc 114, 2) := by decide +kernel
theorem dX7_isEnvelope_15 : decode cX7_isEnvelope 15 = .ok (.if_icmp .eq 21, 3) := by decide +kernel
theorem dX7_isEnvelope_18 : decode cX7_isEnvelope 18 = .ok (.iload_n 0, 1) := by decide +kernel
theorem dX7_isEnvelope_19 : decode cX7_isEnvelope 19 = .ok (.ldc 115, 2) := by decide +kernel
theorem dX7_isEnvelope_21 : decode cX7_isEnvelope 21 = .ok (.if_icmp .eq 15, 3) := by decide +kernel
theorem dX7_isEnvelope_24 : decode cX7_isEnvelope 24 = .ok (.iload_n 0, 1) := by decide +kernel
theorem dX7_isEnvelope_25 : decode cX7_isEnvelope 25 = .ok (.ldc 116, 2) := by decide +kernel
theorem dX7_isEnvelope_27 : decode cX7_isEnvelope 27 = .ok (.if_icmp .eq 9, 3) := by decide +kernel
theorem dX7_isEnvelope_30 : decode cX7_isEnvelope 30 = .ok (.iload_n 0, 1) := by decide +kernel
theorem dX7_isEnvelope_31 : decode cX7_isEnvelope 31 = .ok (.ldc 117, 2) := by decide +kernel
theorem dX7_isEnvelope_33 : decode cX7_isEnvelope 33 = .ok (.if_icmp .ne 7, 3) := by decide +kernel
theorem dX7_isEnvelope_36 : decode cX7_isEnvelope 36 = .ok (.iconst 1, 1) := by decide +kernel
theorem dX7_isEnvelope_37 : decode cX7_isEnvelope 37 = .ok (.goto 4, 3) := by decide +kernel
theorem dX7_isEnvelope_40 : decode cX7_isEnvelope 40 = .ok (.iconst 0, 1) := by decide +kernel
theorem dX7_isEnvelope_41 : decode cX7_isEnvelope 41 = .ok (.ireturn, 1) := by decide +kernel
theorem dX7_following_0 : decode cX7_following 0 = .ok (.iload_n 2, 1) := by decide +kernel
theorem dX7_following_1 : decode cX7_following 1 = .ok (.iconst 1, 1) := by decide +kernel
theorem dX7_following_2 : decode cX7_following 2 = .ok (.iadd, 1) := by decide +kernel
theorem dX7_following_3 : decode cX7_following 3 = .ok (.istore 4, 2) := by decide +kernel
theorem dX7_following_5 : decode cX7_following 5 = .ok (.iload 4, 2) := by decide +kernel
theorem dX7_following_7 : decode cX7_following 7 = .ok (.aload_n 0, 1) := by decide +kernel
theorem dX7_following_8 : decode cX7_following 8 = .ok (.getfield 13, 3) := by decide +kernel
theorem dX7_following_11 : decode cX7_following 11 = .ok (.iload_n 1, 1) := by decide +kernel
theorem dX7_following_12 : decode cX7_following 12 = .ok (.iaload, 1) := by decide +kernel
theorem dX7_following_13 : decode cX7_following 13 = .ok (.if_icmp .ge 28, 3) := by decide +kernel
theorem dX7_following_16 : decode cX7_following 16 = .ok (.aload_n 0, 1) := by decide +kernel
theorem dX7_following_17 : decode cX7_following 17 = .ok (.getfield 26, 3) := by decide +kernel
theorem dX7_following_20 : decode cX7_following 20 = .ok (.bipush 24, 2) := by decide +kernel
theorem dX7_following_22 : decode cX7_following 22 = .ok (.iload_n 1, 1) := by decide +kernel
theorem dX7_following_23 : decode cX7_following 23 = .ok (.imul, 1) := by decide +kernel
theorem dX7_following_24 : decode cX7_following 24 = .ok (.iload 4, 2) := by decide +kernel
theorem dX7_following_26 : decode cX7_following 26 = .ok (.iadd, 1) := by decide +kernel
theorem dX7_following_27 : decode cX7_following 27 = .ok (.iaload, 1) := by decide +kernel
theorem dX7_following_28 : decode cX7_following 28 = .ok (.iload_n 3, 1) := by decide +kernel
theorem dX7_following_29 : decode cX7_following 29 = .ok (.if_icmp .ne 6, 3) := by decide +kernel
theorem dX7_following_32 : decode cX7_following 32 = .ok (.iload 4, 2) := by decide +kernel
theorem dX7_following_34 : decode cX7_following 34 = .ok (.ireturn, 1) := by decide +kernel
theorem dX7_following_35 : decode cX7_following 35 = .ok (.iinc 4 1, 3) := by decide +kernel
theorem dX7_following_38 : decode cX7_following 38 = .ok (.goto (-33), 3) := by decide +kernel
theorem dX7_following_41 : decode cX7_following 41 = .ok (.iconst (-1), 1) := by decide +kernel
theorem dX7_following_42 : decode cX7_following 42 = .ok (.ireturn, 1) := by decide +kernel
theorem dX7_add_0 : decode cX7_add 0 = .ok (.bipush 24, 2) := by decide +kernel
theorem dX7_add_2 : decode cX7_add 2 = .ok (.iload_n 1, 1) := by decide +kernel
theorem dX7_add_3 : decode cX7_add 3 = .ok (.imul, 1) := by decide +kernel
theorem dX7_add_4 : decode cX7_add 4 = .ok (.aload_n 0, 1) := by decide +kernel
theorem dX7_add_5 : decode cX7_add 5 = .ok (.getfield 13, 3) := by decide +kernel
theorem dX7_add_8 : decode cX7_add 8 = .ok (.iload_n 1, 1) := by decide +kernel
theorem dX7_add_9 : decode cX7_add 9 = .ok (.iaload, 1) := by decide +kernel
theorem dX7_add_10 : decode cX7_add 10 = .ok (.iadd, 1) := by decide +kernel
theorem dX7_add_11 : decode cX7_add 11 = .ok (.istore 5, 2) := by decide +kernel
theorem dX7_add_13 : decode cX7_add 13 = .ok (.aload_n 0, 1) := by decide +kernel
theorem dX7_add_14 : decode cX7_add 14 = .ok (.getfield 16, 3) := by decide +kernel
theorem dX7_add_17 : decode cX7_add 17 = .ok (.iload 5, 2) := by decide +kernel
theorem dX7_add_19 : decode cX7_add 19 = .ok (.iload_n 2, 1) := by decide +kernel
theorem dX7_add_20 : decode cX7_add 20 = .ok (.iastore, 1) := by decide +kernel
theorem dX7_add_21 : decode cX7_add 21 = .ok (.aload_n 0, 1) := by decide +kernel
theorem dX7_add_22 : decode cX7_add 22 = .ok (.getfield 19, 3) := by decide +kernel
theorem dX7_add_25 : decode cX7_add 25 = .ok (.iload 5, 2) := by decide +kernel
theorem dX7_add_27 : decode cX7_add 27 = .ok (.iload_n 3, 1) := by decide +kernel
theorem dX7_add_28 : decode cX7_add 28 = .ok (.bastore, 1) := by decide +kernel
theorem dX7_add_29 : decode cX7_add 29 = .ok (.aload_n 0, 1) := by decide +kernel
theorem dX7_add_30 : decode cX7_add 30 = .ok (.getfield 23, 3) := by decide +kernel
theorem dX7_add_33 : decode cX7_add 33 = .ok (.iload 5, 2) := by decide +kernel
theorem dX7_add_35 : decode cX7_add 35 = .ok (.iload 4, 2) := by decide +kernel
theorem dX7_add_37 : decode cX7_add 37 = .ok (.iastore, 1) := by decide +kernel
theorem dX7_add_38 : decode cX7_add 38 = .ok (.aload_n 0, 1) := by decide +kernel
theorem dX7_add_39 : decode cX7_add 39 = .ok (.getfield 26, 3) := by decide +kernel
theorem dX7_add_42 : decode cX7_add 42 = .ok (.iload 5, 2) := by decide +kernel
theorem dX7_add_44 : decode cX7_add 44 = .ok (.aload_n 0, 1) := by decide +kernel
theorem dX7_add_45 : decode cX7_add 45 = .ok (.getfield 29, 3) := by decide +kernel
theorem dX7_add_48 : decode cX7_add 48 = .ok (.iload_n 1, 1) := by decide +kernel
theorem dX7_add_49 : decode cX7_add 49 = .ok (.iaload, 1) := by decide +kernel
theorem dX7_add_50 : decode cX7_add 50 = .ok (.iastore, 1) := by decide +kernel
theorem dX7_add_51 : decode cX7_add 51 = .ok (.aload_n 0, 1) := by decide +kernel
theorem dX7_add_52 : decode cX7_add 52 = .ok (.getfield 13, 3) := by decide +kernel
theorem dX7_add_55 : decode cX7_add 55 = .ok (.iload_n 1, 1) := by decide +kernel
theorem dX7_add_56 : decode cX7_add 56 = .ok (.dup2, 1) := by decide +kernel
theorem dX7_add_57 : decode cX7_add 57 = .ok (.iaload, 1) := by decide +kernel
theorem dX7_add_58 : decode cX7_add 58 = .ok (.iconst 1, 1) := by decide +kernel
theorem dX7_add_59 : decode cX7_add 59 = .ok (.iadd, 1) := by decide +kernel
theorem dX7_add_60 : decode cX7_add 60 = .ok (.iastore, 1) := by decide +kernel
theorem dX7_add_61 : decode cX7_add 61 = .ok (.aload_n 0, 1) := by decide +kernel
theorem dX7_add_62 : decode cX7_add 62 = .ok (.getfield 13, 3) := by decide +kernel
theorem dX7_add_65 : decode cX7_add 65 = .ok (.iload_n 1, 1) := by decide +kernel
theorem dX7_add_66 : decode cX7_add 66 = .ok (.iaload, 1) := by decide +kernel
theorem dX7_add_67 : decode cX7_add 67 = .ok (.ireturn, 1) := by decide +kernel
theorem dX7_isBare_0 : decode cX7_isBare 0 = .ok (.aload_n 0, 1) := by decide +kernel
theorem dX7_isBare_1 : decode cX7_isBare 1 = .ok (.getfield 29, 3) := by decide +kernel
theorem dX7_isBare_4 : decode cX7_isBare 4 = .ok (.iload_n 1, 1) := by decide +kernel
theorem dX7_isBare_5 : decode cX7_isBare 5 = .ok (.iaload, 1) := by decide +kernel
theorem dX7_isBare_6 : decode cX7_isBare 6 = .ok (.ifCond .lt 22, 3) := by decide +kernel
theorem dX7_isBare_9 : decode cX7_isBare 9 = .ok (.aload_n 0, 1) := by decide +kernel
theorem dX7_isBare_10 : decode cX7_isBare 10 = .ok (.iload_n 1, 1) := by decide +kernel
theorem dX7_isBare_11 : decode cX7_isBare 11 = .ok (.iconst (-1), 1) := by decide +kernel
theorem dX7_isBare_12 : decode cX7_isBare 12 = .ok (.aload_n 0, 1) := by decide +kernel
theorem dX7_isBare_13 : decode cX7_isBare 13 = .ok (.getfield 29, 3) := by decide +kernel
theorem dX7_isBare_16 : decode cX7_isBare 16 = .ok (.iload_n 1, 1) := by decide +kernel
theorem dX7_isBare_17 : decode cX7_isBare 17 = .ok (.iaload, 1) := by decide +kernel
theorem dX7_isBare_18 : decode cX7_isBare 18 = .ok (.invokevirtual 118, 3) := by decide +kernel
theorem dX7_isBare_21 : decode cX7_isBare 21 = .ok (.ifCond .ge 7, 3) := by decide +kernel
theorem dX7_isBare_24 : decode cX7_isBare 24 = .ok (.iconst 1, 1) := by decide +kernel
theorem dX7_isBare_25 : decode cX7_isBare 25 = .ok (.goto 4, 3) := by decide +kernel
theorem dX7_isBare_28 : decode cX7_isBare 28 = .ok (.iconst 0, 1) := by decide +kernel
theorem dX7_isBare_29 : decode cX7_isBare 29 = .ok (.ireturn, 1) := by decide +kernel
theorem dX7_slot_0 : decode cX7_slot 0 = .ok (.aload_n 0, 1) := by decide +kernel
theorem dX7_slot_1 : decode cX7_slot 1 = .ok (.iload_n 1, 1) := by decide +kernel
theorem dX7_slot_2 : decode cX7_slot 2 = .ok (.invokestatic 122, 3) := by decide +kernel
theorem dX7_slot_5 : decode cX7_slot 5 = .ok (.ifCond .eq 30, 3) := by decide +kernel
theorem dX7_slot_8 : decode cX7_slot 8 = .ok (.iload_n 2, 1) := by decide +kernel
theorem dX7_slot_9 : decode cX7_slot 9 = .ok (.invokestatic 125, 3) := by decide +kernel
theorem dX7_slot_12 : decode cX7_slot 12 = .ok (.ifCond .eq 23, 3) := by decide +kernel
theorem dX7_slot_15 : decode cX7_slot 15 = .ok (.iload 4, 2) := by decide +kernel
theorem dX7_slot_17 : decode cX7_slot 17 = .ok (.iconst 1, 1) := by decide +kernel
theorem dX7_slot_18 : decode cX7_slot 18 = .ok (.if_icmp .lt 17, 3) := by decide +kernel
theorem dX7_slot_21 : decode cX7_slot 21 = .ok (.iload 4, 2) := by decide +kernel
theorem dX7_slot_23 : decode cX7_slot 23 = .ok (.bipush 99, 2) := by decide +kernel
theorem dX7_slot_25 : decode cX7_slot 25 = .ok (.if_icmp .gt 10, 3) := by decide +kernel
theorem dX7_slot_28 : decode cX7_slot 28 = .ok (.iload_n 2, 1) := by decide +kernel
theorem dX7_slot_29 : decode cX7_slot 29 = .ok (.invokestatic 128, 3) := by decide +kernel
theorem dX7_slot_32 : decode cX7_slot 32 = .ok (.ifCond .eq 7, 3) := by decide +kernel
theorem dX7_slot_35 : decode cX7_slot 35 = .ok (.iconst 1, 1) := by decide +kernel
theorem dX7_slot_36 : decode cX7_slot 36 = .ok (.goto 4, 3) := by decide +kernel
theorem dX7_slot_39 : decode cX7_slot 39 = .ok (.iconst 0, 1) := by decide +kernel
theorem dX7_slot_40 : decode cX7_slot 40 = .ok (.putfield 102, 3) := by decide +kernel
theorem dX7_slot_43 : decode cX7_slot 43 = .ok (.aload_n 0, 1) := by decide +kernel
theorem dX7_slot_44 : decode cX7_slot 44 = .ok (.getfield 102, 3) := by decide +kernel
theorem dX7_slot_47 : decode cX7_slot 47 = .ok (.ifCond .le 5, 3) := by decide +kernel
theorem dX7_slot_50 : decode cX7_slot 50 = .ok (.iconst 0, 1) := by decide +kernel
theorem dX7_slot_51 : decode cX7_slot 51 = .ok (.ireturn, 1) := by decide +kernel
theorem dX7_slot_52 : decode cX7_slot 52 = .ok (.aload_n 0, 1) := by decide +kernel
theorem dX7_slot_53 : decode cX7_slot 53 = .ok (.aload_n 0, 1) := by decide +kernel
theorem dX7_slot_54 : decode cX7_slot 54 = .ok (.getfield 13, 3) := by decide +kernel
theorem dX7_slot_57 : decode cX7_slot 57 = .ok (.iload_n 1, 1) := by decide +kernel
theorem dX7_slot_58 : decode cX7_slot 58 = .ok (.iaload, 1) := by decide +kernel
theorem dX7_slot_59 : decode cX7_slot 59 = .ok (.bipush 24, 2) := by decide +kernel
theorem dX7_slot_61 : decode cX7_slot 61 = .ok (.if_icmp .eq 21, 3) := by decide +kernel
theorem dX7_slot_64 : decode cX7_slot 64 = .ok (.aload_n 0, 1) := by decide +kernel
theorem dX7_slot_65 : decode cX7_slot 65 = .ok (.iload_n 1, 1) := by decide +kernel
theorem dX7_slot_66 : decode cX7_slot 66 = .ok (.invokevirtual 131, 3) := by decide +kernel
theorem dX7_slot_69 : decode cX7_slot 69 = .ok (.ifCond .eq 17, 3) := by decide +kernel
theorem dX7_slot_72 : decode cX7_slot 72 = .ok (.iload_n 3, 1) := by decide +kernel
theorem dX7_slot_73 : decode cX7_slot 73 = .ok (.ifCond .eq 9, 3) := by decide +kernel
theorem dX7_slot_76 : decode cX7_slot 76 = .ok (.iload 4, 2) := by decide +kernel
theorem dX7_slot_78 : decode cX7_slot 78 = .ok (.iconst 1, 1) := by decide +kernel
theorem dX7_slot_79 : decode cX7_slot 79 = .ok (.if_icmp .eq 7, 3) := by decide +kernel
theorem dX7_slot_82 : decode cX7_slot 82 = .ok (.iconst 2, 1) := by decide +kernel
theorem dX7_slot_83 : decode cX7_slot 83 = .ok (.goto 4, 3) := by decide +kernel
theorem dX7_slot_86 : decode cX7_slot 86 = .ok (.iconst 0, 1) := by decide +kernel
theorem dX7_slot_87 : decode cX7_slot 87 = .ok (.putfield 102, 3) := by decide +kernel
theorem dX7_slot_90 : decode cX7_slot 90 = .ok (.aload_n 0, 1) := by decide +kernel
theorem dX7_slot_91 : decode cX7_slot 91 = .ok (.getfield 102, 3) := by decide +kernel
theorem dX7_slot_94 : decode cX7_slot 94 = .ok (.ifCond .le 7, 3) := by decide +kernel
theorem dX7_slot_97 : decode cX7_slot 97 = .ok (.iconst 0, 1) := by decide +kernel
theorem dX7_slot_98 : decode cX7_slot 98 = .ok (.goto 12, 3) := by decide +kernel
theorem dX7_slot_101 : decode cX7_slot 101 = .ok (.aload_n 0, 1) := by decide +kernel
theorem dX7_slot_102 : decode cX7_slot 102 = .ok (.iload_n 1, 1) := by decide +kernel
theorem dX7_slot_103 : decode cX7_slot 103 = .ok (.iload_n 2, 1) := by decide +kernel
theorem dX7_slot_104 : decode cX7_slot 104 = .ok (.iload_n 3, 1) := by decide +kernel
theorem dX7_slot_105 : decode cX7_slot 105 = .ok (.iload 4, 2) := by decide +kernel
theorem dX7_slot_107 : decode cX7_slot 107 = .ok (.invokevirtual 134, 3) := by decide +kernel
theorem dX7_slot_110 : decode cX7_slot 110 = .ok (.ireturn, 1) := by decide +kernel
theorem dX7_openGroups_0 : decode cX7_openGroups 0 = .ok (.iconst 0, 1) := by decide +kernel
theorem dX7_openGroups_1 : decode cX7_openGroups 1 = .ok (.istore_n 2, 1) := by decide +kernel
theorem dX7_openGroups_2 : decode cX7_openGroups 2 = .ok (.aload_n 0, 1) := by decide +kernel
theorem dX7_openGroups_3 : decode cX7_openGroups 3 = .ok (.getfield 29, 3) := by decide +kernel
theorem dX7_openGroups_6 : decode cX7_openGroups 6 = .ok (.iload_n 1, 1) := by decide +kernel
theorem dX7_openGroups_7 : decode cX7_openGroups 7 = .ok (.iaload, 1) := by decide +kernel
theorem dX7_openGroups_8 : decode cX7_openGroups 8 = .ok (.istore_n 3, 1) := by decide +kernel
theorem dX7_openGroups_9 : decode cX7_openGroups 9 = .ok (.iload_n 3, 1) := by decide +kernel
theorem dX7_openGroups_10 : decode cX7_openGroups 10 = .ok (.ifCond .lt 21, 3) := by decide +kernel
theorem dX7_openGroups_13 : decode cX7_openGroups 13 = .ok (.iinc 2 1, 3) := by decide +kernel
theorem dX7_openGroups_16 : decode cX7_openGroups 16 = .ok (.aload_n 0, 1) := by decide +kernel
theorem dX7_openGroups_17 : decode cX7_openGroups 17 = .ok (.getfield 26, 3) := by decide +kernel
theorem dX7_openGroups_20 : decode cX7_openGroups 20 = .ok (.bipush 24, 2) := by decide +kernel
theorem dX7_openGroups_22 : decode cX7_openGroups 22 = .ok (.iload_n 1, 1) := by decide +kernel
theorem dX7_openGroups_23 : decode cX7_openGroups 23 = .ok (.imul, 1) := by decide +kernel
theorem dX7_openGroups_24 : decode cX7_openGroups 24 = .ok (.iload_n 3, 1) := by decide +kernel
theorem dX7_openGroups_25 : decode cX7_openGroups 25 = .ok (.iadd, 1) := by decide +kernel
theorem dX7_openGroups_26 : decode cX7_openGroups 26 = .ok (.iaload, 1) := by decide +kernel
theorem dX7_openGroups_27 : decode cX7_openGroups 27 = .ok (.istore_n 3, 1) := by decide +kernel
theorem dX7_openGroups_28 : decode cX7_openGroups 28 = .ok (.goto (-19), 3) := by decide +kernel
theorem dX7_openGroups_31 : decode cX7_openGroups 31 = .ok (.iload_n 2, 1) := by decide +kernel
theorem dX7_openGroups_32 : decode cX7_openGroups 32 = .ok (.ireturn, 1) := by decide +kernel
theorem dX7_open_0 : decode cX7_open 0 = .ok (.aload_n 0, 1) := by decide +kernel
theorem dX7_open_1 : decode cX7_open 1 = .ok (.iload_n 1, 1) := by decide +kernel
theorem dX7_open_2 : decode cX7_open 2 = .ok (.invokestatic 122, 3) := by decide +kernel
theorem dX7_open_5 : decode cX7_open 5 = .ok (.ifCond .eq 14, 3) := by decide +kernel
theorem dX7_open_8 : decode cX7_open 8 = .ok (.iload_n 3, 1) := by decide +kernel
theorem dX7_open_9 : decode cX7_open 9 = .ok (.iconst 1, 1) := by decide +kernel
theorem dX7_open_10 : decode cX7_open 10 = .ok (.if_icmp .lt 9, 3) := by decide +kernel
theorem dX7_open_13 : decode cX7_open 13 = .ok (.iload_n 3, 1) := by decide +kernel
theorem dX7_open_14 : decode cX7_open 14 = .ok (.bipush 99, 2) := by decide +kernel
theorem dX7_open_16 : decode cX7_open 16 = .ok (.if_icmp .le 7, 3) := by decide +kernel
theorem dX7_open_19 : decode cX7_open 19 = .ok (.iconst 1, 1) := by decide +kernel
theorem dX7_open_20 : decode cX7_open 20 = .ok (.goto 4, 3) := by decide +kernel
theorem dX7_open_23 : decode cX7_open 23 = .ok (.iconst 0, 1) := by decide +kernel
theorem dX7_open_24 : decode cX7_open 24 = .ok (.putfield 102, 3) := by decide +kernel
theorem dX7_open_27 : decode cX7_open 27 = .ok (.aload_n 0, 1) := by decide +kernel
theorem dX7_open_28 : decode cX7_open 28 = .ok (.getfield 102, 3) := by decide +kernel
theorem dX7_open_31 : decode cX7_open 31 = .ok (.ifCond .le 5, 3) := by decide +kernel
theorem dX7_open_34 : decode cX7_open 34 = .ok (.iconst 0, 1) := by decide +kernel
theorem dX7_open_35 : decode cX7_open 35 = .ok (.ireturn, 1) := by decide +kernel
theorem dX7_open_36 : decode cX7_open 36 = .ok (.aload_n 0, 1) := by decide +kernel
theorem dX7_open_37 : decode cX7_open 37 = .ok (.aload_n 0, 1) := by decide +kernel
theorem dX7_open_38 : decode cX7_open 38 = .ok (.getfield 13, 3) := by decide +kernel
theorem dX7_open_41 : decode cX7_open 41 = .ok (.iload_n 1, 1) := by decide +kernel
theorem dX7_open_42 : decode cX7_open 42 = .ok (.iaload, 1) := by decide +kernel
theorem dX7_open_43 : decode cX7_open 43 = .ok (.bipush 24, 2) := by decide +kernel
theorem dX7_open_45 : decode cX7_open 45 = .ok (.if_icmp .eq 20, 3) := by decide +kernel
theorem dX7_open_48 : decode cX7_open 48 = .ok (.aload_n 0, 1) := by decide +kernel
theorem dX7_open_49 : decode cX7_open 49 = .ok (.iload_n 1, 1) := by decide +kernel
theorem dX7_open_50 : decode cX7_open 50 = .ok (.invokevirtual 138, 3) := by decide +kernel
theorem dX7_open_53 : decode cX7_open 53 = .ok (.iconst 3, 1) := by decide +kernel
theorem dX7_open_54 : decode cX7_open 54 = .ok (.if_icmp .eq 11, 3) := by decide +kernel
theorem dX7_open_57 : decode cX7_open 57 = .ok (.aload_n 0, 1) := by decide +kernel
theorem dX7_open_58 : decode cX7_open 58 = .ok (.iload_n 1, 1) := by decide +kernel
theorem dX7_open_59 : decode cX7_open 59 = .ok (.invokevirtual 131, 3) := by decide +kernel
theorem dX7_open_62 : decode cX7_open 62 = .ok (.ifCond .eq 7, 3) := by decide +kernel
theorem dX7_open_65 : decode cX7_open 65 = .ok (.iconst 2, 1) := by decide +kernel
theorem dX7_open_66 : decode cX7_open 66 = .ok (.goto 4, 3) := by decide +kernel
theorem dX7_open_69 : decode cX7_open 69 = .ok (.iconst 0, 1) := by decide +kernel
theorem dX7_open_70 : decode cX7_open 70 = .ok (.putfield 102, 3) := by decide +kernel
theorem dX7_open_73 : decode cX7_open 73 = .ok (.aload_n 0, 1) := by decide +kernel
theorem dX7_open_74 : decode cX7_open 74 = .ok (.getfield 102, 3) := by decide +kernel
theorem dX7_open_77 : decode cX7_open 77 = .ok (.ifCond .le 5, 3) := by decide +kernel
theorem dX7_open_80 : decode cX7_open 80 = .ok (.iconst 0, 1) := by decide +kernel
theorem dX7_open_81 : decode cX7_open 81 = .ok (.ireturn, 1) := by decide +kernel
theorem dX7_open_82 : decode cX7_open 82 = .ok (.aload_n 0, 1) := by decide +kernel
theorem dX7_open_83 : decode cX7_open 83 = .ok (.iload_n 1, 1) := by decide +kernel
theorem dX7_open_84 : decode cX7_open 84 = .ok (.iconst 0, 1) := by decide +kernel
theorem dX7_open_85 : decode cX7_open 85 = .ok (.iload_n 2, 1) := by decide +kernel
theorem dX7_open_86 : decode cX7_open 86 = .ok (.iload_n 3, 1) := by decide +kernel
theorem dX7_open_87 : decode cX7_open 87 = .ok (.invokevirtual 134, 3) := by decide +kernel
theorem dX7_open_90 : decode cX7_open 90 = .ok (.istore 4, 2) := by decide +kernel
theorem dX7_open_92 : decode cX7_open 92 = .ok (.aload_n 0, 1) := by decide +kernel
theorem dX7_open_93 : decode cX7_open 93 = .ok (.getfield 29, 3) := by decide +kernel
theorem dX7_open_96 : decode cX7_open 96 = .ok (.iload_n 1, 1) := by decide +kernel
theorem dX7_open_97 : decode cX7_open 97 = .ok (.iload 4, 2) := by decide +kernel
theorem dX7_open_99 : decode cX7_open 99 = .ok (.iconst 1, 1) := by decide +kernel
theorem dX7_open_100 : decode cX7_open 100 = .ok (.isub, 1) := by decide +kernel
theorem dX7_open_101 : decode cX7_open 101 = .ok (.iastore, 1) := by decide +kernel
theorem dX7_open_102 : decode cX7_open 102 = .ok (.iload 4, 2) := by decide +kernel
theorem dX7_open_104 : decode cX7_open 104 = .ok (.ireturn, 1) := by decide +kernel
theorem dX7_close_0 : decode cX7_close 0 = .ok (.aload_n 0, 1) := by decide +kernel
theorem dX7_close_1 : decode cX7_close 1 = .ok (.iload_n 1, 1) := by decide +kernel
theorem dX7_close_2 : decode cX7_close 2 = .ok (.invokestatic 122, 3) := by decide +kernel
theorem dX7_close_5 : decode cX7_close 5 = .ok (.ifCond .eq 7, 3) := by decide +kernel
theorem dX7_close_8 : decode cX7_close 8 = .ok (.iconst 0, 1) := by decide +kernel
theorem dX7_close_9 : decode cX7_close 9 = .ok (.goto 4, 3) := by decide +kernel
theorem dX7_close_12 : decode cX7_close 12 = .ok (.iconst 1, 1) := by decide +kernel
theorem dX7_close_13 : decode cX7_close 13 = .ok (.putfield 102, 3) := by decide +kernel
theorem dX7_close_16 : decode cX7_close 16 = .ok (.aload_n 0, 1) := by decide +kernel
theorem dX7_close_17 : decode cX7_close 17 = .ok (.getfield 102, 3) := by decide +kernel
theorem dX7_close_20 : decode cX7_close 20 = .ok (.ifCond .gt 23, 3) := by decide +kernel
theorem dX7_close_23 : decode cX7_close 23 = .ok (.aload_n 0, 1) := by decide +kernel
theorem dX7_close_24 : decode cX7_close 24 = .ok (.getfield 29, 3) := by decide +kernel
theorem dX7_close_27 : decode cX7_close 27 = .ok (.aload_n 0, 1) := by decide +kernel
theorem dX7_close_28 : decode cX7_close 28 = .ok (.getfield 102, 3) := by decide +kernel
theorem dX7_close_31 : decode cX7_close 31 = .ok (.ifCond .le 7, 3) := by decide +kernel
theorem dX7_close_34 : decode cX7_close 34 = .ok (.iconst 0, 1) := by decide +kernel
theorem dX7_close_35 : decode cX7_close 35 = .ok (.goto 4, 3) := by decide +kernel
theorem dX7_close_38 : decode cX7_close 38 = .ok (.iload_n 1, 1) := by decide +kernel
theorem dX7_close_39 : decode cX7_close 39 = .ok (.iaload, 1) := by decide +kernel
theorem dX7_close_40 : decode cX7_close 40 = .ok (.ifCond .ge 5, 3) := by decide +kernel
theorem dX7_close_43 : decode cX7_close 43 = .ok (.iconst 0, 1) := by decide +kernel
theorem dX7_close_44 : decode cX7_close 44 = .ok (.ireturn, 1) := by decide +kernel
theorem dX7_close_45 : decode cX7_close 45 = .ok (.aload_n 0, 1) := by decide +kernel
theorem dX7_close_46 : decode cX7_close 46 = .ok (.iload_n 1, 1) := by decide +kernel
theorem dX7_close_47 : decode cX7_close 47 = .ok (.invokevirtual 131, 3) := by decide +kernel
theorem dX7_close_50 : decode cX7_close 50 = .ok (.ifCond .eq 5, 3) := by decide +kernel
theorem dX7_close_53 : decode cX7_close 53 = .ok (.iconst 0, 1) := by decide +kernel
theorem dX7_close_54 : decode cX7_close 54 = .ok (.ireturn, 1) := by decide +kernel
theorem dX7_close_55 : decode cX7_close 55 = .ok (.aload_n 0, 1) := by decide +kernel
theorem dX7_close_56 : decode cX7_close 56 = .ok (.getfield 29, 3) := by decide +kernel
theorem dX7_close_59 : decode cX7_close 59 = .ok (.iload_n 1, 1) := by decide +kernel
theorem dX7_close_60 : decode cX7_close 60 = .ok (.aload_n 0, 1) := by decide +kernel
theorem dX7_close_61 : decode cX7_close 61 = .ok (.getfield 26, 3) := by decide +kernel
theorem dX7_close_64 : decode cX7_close 64 = .ok (.bipush 24, 2) := by decide +kernel
theorem dX7_close_66 : decode cX7_close 66 = .ok (.iload_n 1, 1) := by decide +kernel
theorem dX7_close_67 : decode cX7_close 67 = .ok (.imul, 1) := by decide +kernel
theorem dX7_close_68 : decode cX7_close 68 = .ok (.aload_n 0, 1) := by decide +kernel
theorem dX7_close_69 : decode cX7_close 69 = .ok (.getfield 29, 3) := by decide +kernel
theorem dX7_close_72 : decode cX7_close 72 = .ok (.iload_n 1, 1) := by decide +kernel
theorem dX7_close_73 : decode cX7_close 73 = .ok (.iaload, 1) := by decide +kernel
theorem dX7_close_74 : decode cX7_close 74 = .ok (.iadd, 1) := by decide +kernel
theorem dX7_close_75 : decode cX7_close 75 = .ok (.iaload, 1) := by decide +kernel
theorem dX7_close_76 : decode cX7_close 76 = .ok (.iastore, 1) := by decide +kernel
theorem dX7_close_77 : decode cX7_close 77 = .ok (.iconst 1, 1) := by decide +kernel
theorem dX7_close_78 : decode cX7_close 78 = .ok (.ireturn, 1) := by decide +kernel
theorem dX7_clear_0 : decode cX7_clear 0 = .ok (.aload_n 0, 1) := by decide +kernel
theorem dX7_clear_1 : decode cX7_clear 1 = .ok (.iload_n 1, 1) := by decide +kernel
theorem dX7_clear_2 : decode cX7_clear 2 = .ok (.invokestatic 122, 3) := by decide +kernel
theorem dX7_clear_5 : decode cX7_clear 5 = .ok (.ifCond .eq 7, 3) := by decide +kernel
theorem dX7_clear_8 : decode cX7_clear 8 = .ok (.iconst 0, 1) := by decide +kernel
theorem dX7_clear_9 : decode cX7_clear 9 = .ok (.goto 4, 3) := by decide +kernel
theorem dX7_clear_12 : decode cX7_clear 12 = .ok (.iconst 1, 1) := by decide +kernel
theorem dX7_clear_13 : decode cX7_clear 13 = .ok (.putfield 102, 3) := by decide +kernel
theorem dX7_clear_16 : decode cX7_clear 16 = .ok (.aload_n 0, 1) := by decide +kernel
theorem dX7_clear_17 : decode cX7_clear 17 = .ok (.getfield 102, 3) := by decide +kernel
theorem dX7_clear_20 : decode cX7_clear 20 = .ok (.ifCond .gt 23, 3) := by decide +kernel
theorem dX7_clear_23 : decode cX7_clear 23 = .ok (.aload_n 0, 1) := by decide +kernel
theorem dX7_clear_24 : decode cX7_clear 24 = .ok (.getfield 13, 3) := by decide +kernel
theorem dX7_clear_27 : decode cX7_clear 27 = .ok (.aload_n 0, 1) := by decide +kernel
theorem dX7_clear_28 : decode cX7_clear 28 = .ok (.getfield 102, 3) := by decide +kernel
theorem dX7_clear_31 : decode cX7_clear 31 = .ok (.ifCond .le 7, 3) := by decide +kernel
theorem dX7_clear_34 : decode cX7_clear 34 = .ok (.iconst 0, 1) := by decide +kernel
theorem dX7_clear_35 : decode cX7_clear 35 = .ok (.goto 4, 3) := by decide +kernel
theorem dX7_clear_38 : decode cX7_clear 38 = .ok (.iload_n 1, 1) := by decide +kernel
theorem dX7_clear_39 : decode cX7_clear 39 = .ok (.iaload, 1) := by decide +kernel
theorem dX7_clear_40 : decode cX7_clear 40 = .ok (.ifCond .ne 5, 3) := by decide +kernel
theorem dX7_clear_43 : decode cX7_clear 43 = .ok (.iconst 0, 1) := by decide +kernel
theorem dX7_clear_44 : decode cX7_clear 44 = .ok (.ireturn, 1) := by decide +kernel
theorem dX7_clear_45 : decode cX7_clear 45 = .ok (.aload_n 0, 1) := by decide +kernel
theorem dX7_clear_46 : decode cX7_clear 46 = .ok (.getfield 13, 3) := by decide +kernel
theorem dX7_clear_49 : decode cX7_clear 49 = .ok (.iload_n 1, 1) := by decide +kernel
theorem dX7_clear_50 : decode cX7_clear 50 = .ok (.iconst 0, 1) := by decide +kernel
theorem dX7_clear_51 : decode cX7_clear 51 = .ok (.iastore, 1) := by decide +kernel
theorem dX7_clear_52 : decode cX7_clear 52 = .ok (.aload_n 0, 1) := by decide +kernel
theorem dX7_clear_53 : decode cX7_clear 53 = .ok (.getfield 29, 3) := by decide +kernel
theorem dX7_clear_56 : decode cX7_clear 56 = .ok (.iload_n 1, 1) := by decide +kernel
theorem dX7_clear_57 : decode cX7_clear 57 = .ok (.iconst (-1), 1) := by decide +kernel
theorem dX7_clear_58 : decode cX7_clear 58 = .ok (.iastore, 1) := by decide +kernel
theorem dX7_clear_59 : decode cX7_clear 59 = .ok (.iconst 1, 1) := by decide +kernel
theorem dX7_clear_60 : decode cX7_clear 60 = .ok (.ireturn, 1) := by decide +kernel
theorem dX7_canMark_0 : decode cX7_canMark 0 = .ok (.iload_n 0, 1) := by decide +kernel
theorem dX7_canMark_1 : decode cX7_canMark 1 = .ok (.bipush 32, 2) := by decide +kernel
theorem dX7_canMark_3 : decode cX7_canMark 3 = .ok (.if_icmp .le 38, 3) := by decide +kernel
theorem dX7_canMark_6 : decode cX7_canMark 6 = .ok (.iload_n 0, 1) := by decide +kernel
theorem dX7_canMark_7 : decode cX7_canMark 7 = .ok (.invokestatic 108, 3) := by decide +kernel
theorem dX7_canMark_10 : decode cX7_canMark 10 = .ok (.ifCond .ne 31, 3) := by decide +kernel
theorem dX7_canMark_13 : decode cX7_canMark 13 = .ok (.iload_n 0, 1) := by decide +kernel
theorem dX7_canMark_14 : decode cX7_canMark 14 = .ok (.bipush 97, 2) := by decide +kernel
theorem dX7_canMark_16 : decode cX7_canMark 16 = .ok (.if_icmp .lt 9, 3) := by decide +kernel
theorem dX7_canMark_19 : decode cX7_canMark 19 = .ok (.iload_n 0, 1) := by decide +kernel
theorem dX7_canMark_20 : decode cX7_canMark 20 = .ok (.bipush 122, 2) := by decide +kernel
theorem dX7_canMark_22 : decode cX7_canMark 22 = .ok (.if_icmp .le 19, 3) := by decide +kernel
theorem dX7_canMark_25 : decode cX7_canMark 25 = .ok (.iload_n 0, 1) := by decide +kernel
theorem dX7_canMark_26 : decode cX7_canMark 26 = .ok (.bipush 48, 2) := by decide +kernel
theorem dX7_canMark_28 : decode cX7_canMark 28 = .ok (.if_icmp .lt 9, 3) := by decide +kernel
theorem dX7_canMark_31 : decode cX7_canMark 31 = .ok (.iload_n 0, 1) := by decide +kernel
theorem dX7_canMark_32 : decode cX7_canMark 32 = .ok (.bipush 57, 2) := by decide +kernel
theorem dX7_canMark_34 : decode cX7_canMark 34 = .ok (.if_icmp .le 7, 3) := by decide +kernel
theorem dX7_canMark_37 : decode cX7_canMark 37 = .ok (.iconst 1, 1) := by decide +kernel
theorem dX7_canMark_38 : decode cX7_canMark 38 = .ok (.goto 4, 3) := by decide +kernel
theorem dX7_canMark_41 : decode cX7_canMark 41 = .ok (.iconst 0, 1) := by decide +kernel
theorem dX7_canMark_42 : decode cX7_canMark 42 = .ok (.ireturn, 1) := by decide +kernel
theorem dX7_marks_0 : decode cX7_marks 0 = .ok (.aload_n 0, 1) := by decide +kernel
theorem dX7_marks_1 : decode cX7_marks 1 = .ok (.bipush 58, 2) := by decide +kernel
theorem dX7_marks_3 : decode cX7_marks 3 = .ok (.putfield 142, 3) := by decide +kernel
theorem dX7_marks_6 : decode cX7_marks 6 = .ok (.aload_n 0, 1) := by decide +kernel
theorem dX7_marks_7 : decode cX7_marks 7 = .ok (.bipush 43, 2) := by decide +kernel
theorem dX7_marks_9 : decode cX7_marks 9 = .ok (.putfield 145, 3) := by decide +kernel
theorem dX7_marks_12 : decode cX7_marks 12 = .ok (.aload_n 0, 1) := by decide +kernel
theorem dX7_marks_13 : decode cX7_marks 13 = .ok (.bipush 63, 2) := by decide +kernel
theorem dX7_marks_15 : decode cX7_marks 15 = .ok (.putfield 148, 3) := by decide +kernel
theorem dX7_marks_18 : decode cX7_marks 18 = .ok (.aload_n 0, 1) := by decide +kernel
theorem dX7_marks_19 : decode cX7_marks 19 = .ok (.bipush 39, 2) := by decide +kernel
theorem dX7_marks_21 : decode cX7_marks 21 = .ok (.putfield 151, 3) := by decide +kernel
theorem dX7_marks_24 : decode cX7_marks 24 = .ok (.aload_n 0, 1) := by decide +kernel
theorem dX7_marks_25 : decode cX7_marks 25 = .ok (.getfield 105, 3) := by decide +kernel
theorem dX7_marks_28 : decode cX7_marks 28 = .ok (.iconst 3, 1) := by decide +kernel
theorem dX7_marks_29 : decode cX7_marks 29 = .ok (.if_icmp .lt 36, 3) := by decide +kernel
theorem dX7_marks_32 : decode cX7_marks 32 = .ok (.aload_n 0, 1) := by decide +kernel
theorem dX7_marks_33 : decode cX7_marks 33 = .ok (.getfield 7, 3) := by decide +kernel
theorem dX7_marks_36 : decode cX7_marks 36 = .ok (.iconst 0, 1) := by decide +kernel
theorem dX7_marks_37 : decode cX7_marks 37 = .ok (.iaload, 1) := by decide +kernel
theorem dX7_marks_38 : decode cX7_marks 38 = .ok (.bipush 85, 2) := by decide +kernel
theorem dX7_marks_40 : decode cX7_marks 40 = .ok (.if_icmp .ne 25, 3) := by decide +kernel
theorem dX7_marks_43 : decode cX7_marks 43 = .ok (.aload_n 0, 1) := by decide +kernel
theorem dX7_marks_44 : decode cX7_marks 44 = .ok (.getfield 7, 3) := by decide +kernel
theorem dX7_marks_47 : decode cX7_marks 47 = .ok (.iconst 1, 1) := by decide +kernel
theorem dX7_marks_48 : decode cX7_marks 48 = .ok (.iaload, 1) := by decide +kernel
theorem dX7_marks_49 : decode cX7_marks 49 = .ok (.bipush 78, 2) := by decide +kernel
theorem dX7_marks_51 : decode cX7_marks 51 = .ok (.if_icmp .ne 14, 3) := by decide +kernel
theorem dX7_marks_54 : decode cX7_marks 54 = .ok (.aload_n 0, 1) := by decide +kernel
theorem dX7_marks_55 : decode cX7_marks 55 = .ok (.getfield 7, 3) := by decide +kernel
theorem dX7_marks_58 : decode cX7_marks 58 = .ok (.iconst 2, 1) := by decide +kernel
theorem dX7_marks_59 : decode cX7_marks 59 = .ok (.iaload, 1) := by decide +kernel
theorem dX7_marks_60 : decode cX7_marks 60 = .ok (.bipush 65, 2) := by decide +kernel
theorem dX7_marks_62 : decode cX7_marks 62 = .ok (.if_icmp .eq 5, 3) := by decide +kernel
theorem dX7_marks_65 : decode cX7_marks 65 = .ok (.iconst 0, 1) := by decide +kernel
theorem dX7_marks_66 : decode cX7_marks 66 = .ok (.ireturn, 1) := by decide +kernel
theorem dX7_marks_67 : decode cX7_marks 67 = .ok (.iconst 3, 1) := by decide +kernel
theorem dX7_marks_68 : decode cX7_marks 68 = .ok (.istore_n 1, 1) := by decide +kernel
theorem dX7_marks_69 : decode cX7_marks 69 = .ok (.iload_n 1, 1) := by decide +kernel
theorem dX7_marks_70 : decode cX7_marks 70 = .ok (.bipush 9, 2) := by decide +kernel
theorem dX7_marks_72 : decode cX7_marks 72 = .ok (.if_icmp .ge 157, 3) := by decide +kernel
theorem dX7_marks_75 : decode cX7_marks 75 = .ok (.aload_n 0, 1) := by decide +kernel
theorem dX7_marks_76 : decode cX7_marks 76 = .ok (.iload_n 1, 1) := by decide +kernel
theorem dX7_marks_77 : decode cX7_marks 77 = .ok (.putfield 32, 3) := by decide +kernel
theorem dX7_marks_80 : decode cX7_marks 80 = .ok (.iload_n 1, 1) := by decide +kernel
theorem dX7_marks_81 : decode cX7_marks 81 = .ok (.aload_n 0, 1) := by decide +kernel
theorem dX7_marks_82 : decode cX7_marks 82 = .ok (.getfield 105, 3) := by decide +kernel
theorem dX7_marks_85 : decode cX7_marks 85 = .ok (.if_icmp .ne 5, 3) := by decide +kernel
theorem dX7_marks_88 : decode cX7_marks 88 = .ok (.iconst (-1), 1) := by decide +kernel
theorem dX7_marks_89 : decode cX7_marks 89 = .ok (.ireturn, 1) := by decide +kernel
theorem dX7_marks_90 : decode cX7_marks 90 = .ok (.aload_n 0, 1) := by decide +kernel
theorem dX7_marks_91 : decode cX7_marks 91 = .ok (.getfield 7, 3) := by decide +kernel
theorem dX7_marks_94 : decode cX7_marks 94 = .ok (.iload_n 1, 1) := by decide +kernel
theorem dX7_marks_95 : decode cX7_marks 95 = .ok (.iaload, 1) := by decide +kernel
theorem dX7_marks_96 : decode cX7_marks 96 = .ok (.istore_n 2, 1) := by decide +kernel
theorem dX7_marks_97 : decode cX7_marks 97 = .ok (.iload_n 1, 1) := by decide +kernel
theorem dX7_marks_98 : decode cX7_marks 98 = .ok (.iconst 5, 1) := by decide +kernel
theorem dX7_marks_99 : decode cX7_marks 99 = .ok (.if_icmp .eq 37, 3) := by decide +kernel
theorem dX7_marks_102 : decode cX7_marks 102 = .ok (.iload_n 1, 1) := by decide +kernel
theorem dX7_marks_103 : decode cX7_marks 103 = .ok (.bipush 7, 2) := by decide +kernel
theorem dX7_marks_105 : decode cX7_marks 105 = .ok (.if_icmp .ne 12, 3) := by decide +kernel
theorem dX7_marks_108 : decode cX7_marks 108 = .ok (.iload_n 2, 1) := by decide +kernel
theorem dX7_marks_109 : decode cX7_marks 109 = .ok (.bipush 32, 2) := by decide +kernel
theorem dX7_marks_111 : decode cX7_marks 111 = .ok (.if_icmp .ne 29, 3) := by decide +kernel
theorem dX7_marks_114 : decode cX7_marks 114 = .ok (.goto 22, 3) := by decide +kernel
theorem dX7_marks_117 : decode cX7_marks 117 = .ok (.iload_n 2, 1) := by decide +kernel
theorem dX7_marks_118 : decode cX7_marks 118 = .ok (.invokestatic 154, 3) := by decide +kernel
theorem dX7_marks_121 : decode cX7_marks 121 = .ok (.ifCond .ne 15, 3) := by decide +kernel
theorem dX7_marks_124 : decode cX7_marks 124 = .ok (.iload_n 1, 1) := by decide +kernel
theorem dX7_marks_125 : decode cX7_marks 125 = .ok (.bipush 6, 2) := by decide +kernel
theorem dX7_marks_127 : decode cX7_marks 127 = .ok (.if_icmp .ne 13, 3) := by decide +kernel
theorem dX7_marks_130 : decode cX7_marks 130 = .ok (.iload_n 2, 1) := by decide +kernel
theorem dX7_marks_131 : decode cX7_marks 131 = .ok (.bipush 32, 2) := by decide +kernel
theorem dX7_marks_133 : decode cX7_marks 133 = .ok (.if_icmp .ne 7, 3) := by decide +kernel
theorem dX7_marks_136 : decode cX7_marks 136 = .ok (.iconst 1, 1) := by decide +kernel
theorem dX7_marks_137 : decode cX7_marks 137 = .ok (.goto 4, 3) := by decide +kernel
theorem dX7_marks_140 : decode cX7_marks 140 = .ok (.iconst 0, 1) := by decide +kernel
theorem dX7_marks_141 : decode cX7_marks 141 = .ok (.istore_n 3, 1) := by decide +kernel
theorem dX7_marks_142 : decode cX7_marks 142 = .ok (.iload_n 3, 1) := by decide +kernel
theorem dX7_marks_143 : decode cX7_marks 143 = .ok (.ifCond .eq 72, 3) := by decide +kernel
theorem dX7_marks_146 : decode cX7_marks 146 = .ok (.iload_n 1, 1) := by decide +kernel
theorem dX7_marks_147 : decode cX7_marks 147 = .ok (.iconst 4, 1) := by decide +kernel
theorem dX7_marks_148 : decode cX7_marks 148 = .ok (.if_icmp .lt 24, 3) := by decide +kernel
theorem dX7_marks_151 : decode cX7_marks 151 = .ok (.iload_n 1, 1) := by decide +kernel
theorem dX7_marks_152 : decode cX7_marks 152 = .ok (.iconst 5, 1) := by decide +kernel
theorem dX7_marks_153 : decode cX7_marks 153 = .ok (.if_icmp .eq 19, 3) := by decide +kernel
theorem dX7_marks_156 : decode cX7_marks 156 = .ok (.iload_n 1, 1) := by decide +kernel
theorem dX7_marks_157 : decode cX7_marks 157 = .ok (.bipush 7, 2) := by decide +kernel
theorem dX7_marks_159 : decode cX7_marks 159 = .ok (.if_icmp .eq 13, 3) := by decide +kernel
theorem dX7_marks_162 : decode cX7_marks 162 = .ok (.iload_n 2, 1) := by decide +kernel
theorem dX7_marks_163 : decode cX7_marks 163 = .ok (.aload_n 0, 1) := by decide +kernel
theorem dX7_marks_164 : decode cX7_marks 164 = .ok (.getfield 7, 3) := by decide +kernel
theorem dX7_marks_167 : decode cX7_marks 167 = .ok (.iconst 3, 1) := by decide +kernel
theorem dX7_marks_168 : decode cX7_marks 168 = .ok (.iaload, 1) := by decide +kernel
theorem dX7_marks_169 : decode cX7_marks 169 = .ok (.if_icmp .eq 46, 3) := by decide +kernel
theorem dX7_marks_172 : decode cX7_marks 172 = .ok (.iload_n 1, 1) := by decide +kernel
theorem dX7_marks_173 : decode cX7_marks 173 = .ok (.bipush 6, 2) := by decide +kernel
theorem dX7_marks_175 : decode cX7_marks 175 = .ok (.if_icmp .lt 19, 3) := by decide +kernel
theorem dX7_marks_178 : decode cX7_marks 178 = .ok (.iload_n 1, 1) := by decide +kernel
theorem dX7_marks_179 : decode cX7_marks 179 = .ok (.bipush 7, 2) := by decide +kernel
theorem dX7_marks_181 : decode cX7_marks 181 = .ok (.if_icmp .eq 13, 3) := by decide +kernel
theorem dX7_marks_184 : decode cX7_marks 184 = .ok (.iload_n 2, 1) := by decide +kernel
theorem dX7_marks_185 : decode cX7_marks 185 = .ok (.aload_n 0, 1) := by decide +kernel
theorem dX7_marks_186 : decode cX7_marks 186 = .ok (.getfield 7, 3) := by decide +kernel
theorem dX7_marks_189 : decode cX7_marks 189 = .ok (.iconst 4, 1) := by decide +kernel
theorem dX7_marks_190 : decode cX7_marks 190 = .ok (.iaload, 1) := by decide +kernel
theorem dX7_marks_191 : decode cX7_marks 191 = .ok (.if_icmp .eq 24, 3) := by decide +kernel
theorem dX7_marks_194 : decode cX7_marks 194 = .ok (.iload_n 1, 1) := by decide +kernel
theorem dX7_marks_195 : decode cX7_marks 195 = .ok (.bipush 8, 2) := by decide +kernel
theorem dX7_marks_197 : decode cX7_marks 197 = .ok (.if_icmp .lt 14, 3) := by decide +kernel
theorem dX7_marks_200 : decode cX7_marks 200 = .ok (.iload_n 2, 1) := by decide +kernel
theorem dX7_marks_201 : decode cX7_marks 201 = .ok (.aload_n 0, 1) := by decide +kernel
theorem dX7_marks_202 : decode cX7_marks 202 = .ok (.getfield 7, 3) := by decide +kernel
theorem dX7_marks_205 : decode cX7_marks 205 = .ok (.bipush 6, 2) := by decide +kernel
theorem dX7_marks_207 : decode cX7_marks 207 = .ok (.iaload, 1) := by decide +kernel
theorem dX7_marks_208 : decode cX7_marks 208 = .ok (.if_icmp .eq 7, 3) := by decide +kernel
theorem dX7_marks_211 : decode cX7_marks 211 = .ok (.iconst 1, 1) := by decide +kernel
theorem dX7_marks_212 : decode cX7_marks 212 = .ok (.goto 4, 3) := by decide +kernel
theorem dX7_marks_215 : decode cX7_marks 215 = .ok (.iconst 0, 1) := by decide +kernel
theorem dX7_marks_216 : decode cX7_marks 216 = .ok (.istore_n 3, 1) := by decide +kernel
theorem dX7_marks_217 : decode cX7_marks 217 = .ok (.iload_n 3, 1) := by decide +kernel
theorem dX7_marks_218 : decode cX7_marks 218 = .ok (.ifCond .ne 5, 3) := by decide +kernel
theorem dX7_marks_221 : decode cX7_marks 221 = .ok (.iconst (-1), 1) := by decide +kernel
theorem dX7_marks_222 : decode cX7_marks 222 = .ok (.ireturn, 1) := by decide +kernel
theorem dX7_marks_223 : decode cX7_marks 223 = .ok (.iinc 1 1, 3) := by decide +kernel
theorem dX7_marks_226 : decode cX7_marks 226 = .ok (.goto (-157), 3) := by decide +kernel
theorem dX7_marks_229 : decode cX7_marks 229 = .ok (.aload_n 0, 1) := by decide +kernel
theorem dX7_marks_230 : decode cX7_marks 230 = .ok (.aload_n 0, 1) := by decide +kernel
theorem dX7_marks_231 : decode cX7_marks 231 = .ok (.getfield 7, 3) := by decide +kernel
theorem dX7_marks_234 : decode cX7_marks 234 = .ok (.iconst 3, 1) := by decide +kernel
theorem dX7_marks_235 : decode cX7_marks 235 = .ok (.iaload, 1) := by decide +kernel
theorem dX7_marks_236 : decode cX7_marks 236 = .ok (.putfield 142, 3) := by decide +kernel
theorem dX7_marks_239 : decode cX7_marks 239 = .ok (.aload_n 0, 1) := by decide +kernel
theorem dX7_marks_240 : decode cX7_marks 240 = .ok (.aload_n 0, 1) := by decide +kernel
theorem dX7_marks_241 : decode cX7_marks 241 = .ok (.getfield 7, 3) := by decide +kernel
theorem dX7_marks_244 : decode cX7_marks 244 = .ok (.iconst 4, 1) := by decide +kernel
theorem dX7_marks_245 : decode cX7_marks 245 = .ok (.iaload, 1) := by decide +kernel
theorem dX7_marks_246 : decode cX7_marks 246 = .ok (.putfield 145, 3) := by decide +kernel
theorem dX7_marks_249 : decode cX7_marks 249 = .ok (.aload_n 0, 1) := by decide +kernel
theorem dX7_marks_250 : decode cX7_marks 250 = .ok (.aload_n 0, 1) := by decide +kernel
theorem dX7_marks_251 : decode cX7_marks 251 = .ok (.getfield 7, 3) := by decide +kernel
theorem dX7_marks_254 : decode cX7_marks 254 = .ok (.bipush 6, 2) := by decide +kernel
theorem dX7_marks_256 : decode cX7_marks 256 = .ok (.iaload, 1) := by decide +kernel
theorem dX7_marks_257 : decode cX7_marks 257 = .ok (.bipush 32, 2) := by decide +kernel
theorem dX7_marks_259 : decode cX7_marks 259 = .ok (.if_icmp .ne 7, 3) := by decide +kernel
theorem dX7_marks_262 : decode cX7_marks 262 = .ok (.iconst 0, 1) := by decide +kernel
theorem dX7_marks_263 : decode cX7_marks 263 = .ok (.goto 10, 3) := by decide +kernel
theorem dX7_marks_266 : decode cX7_marks 266 = .ok (.aload_n 0, 1) := by decide +kernel
theorem dX7_marks_267 : decode cX7_marks 267 = .ok (.getfield 7, 3) := by decide +kernel
theorem dX7_marks_270 : decode cX7_marks 270 = .ok (.bipush 6, 2) := by decide +kernel
theorem dX7_marks_272 : decode cX7_marks 272 = .ok (.iaload, 1) := by decide +kernel
theorem dX7_marks_273 : decode cX7_marks 273 = .ok (.putfield 148, 3) := by decide +kernel
theorem dX7_marks_276 : decode cX7_marks 276 = .ok (.aload_n 0, 1) := by decide +kernel
theorem dX7_marks_277 : decode cX7_marks 277 = .ok (.aload_n 0, 1) := by decide +kernel
theorem dX7_marks_278 : decode cX7_marks 278 = .ok (.getfield 7, 3) := by decide +kernel
theorem dX7_marks_281 : decode cX7_marks 281 = .ok (.bipush 8, 2) := by decide +kernel
theorem dX7_marks_283 : decode cX7_marks 283 = .ok (.iaload, 1) := by decide +kernel
theorem dX7_marks_284 : decode cX7_marks 284 = .ok (.putfield 151, 3) := by decide +kernel
theorem dX7_marks_287 : decode cX7_marks 287 = .ok (.bipush 9, 2) := by decide +kernel
theorem dX7_marks_289 : decode cX7_marks 289 = .ok (.ireturn, 1) := by decide +kernel
theorem dX7_beginComponent_0 : decode cX7_beginComponent 0 = .ok (.aload_n 0, 1) := by decide +kernel
theorem dX7_beginComponent_1 : decode cX7_beginComponent 1 = .ok (.getfield 45, 3) := by decide +kernel
theorem dX7_beginComponent_4 : decode cX7_beginComponent 4 = .ok (.aload_n 0, 1) := by decide +kernel
theorem dX7_beginComponent_5 : decode cX7_beginComponent 5 = .ok (.getfield 157, 3) := by decide +kernel
theorem dX7_beginComponent_8 : decode cX7_beginComponent 8 = .ok (.aload_n 0, 1) := by decide +kernel
theorem dX7_beginComponent_9 : decode cX7_beginComponent 9 = .ok (.getfield 160, 3) := by decide +kernel
theorem dX7_beginComponent_12 : decode cX7_beginComponent 12 = .ok (.iastore, 1) := by decide +kernel
theorem dX7_beginComponent_13 : decode cX7_beginComponent 13 = .ok (.aload_n 0, 1) := by decide +kernel
theorem dX7_beginComponent_14 : decode cX7_beginComponent 14 = .ok (.dup, 1) := by decide +kernel
theorem dX7_beginComponent_15 : decode cX7_beginComponent 15 = .ok (.getfield 157, 3) := by decide +kernel
theorem dX7_beginComponent_18 : decode cX7_beginComponent 18 = .ok (.iconst 1, 1) := by decide +kernel
theorem dX7_beginComponent_19 : decode cX7_beginComponent 19 = .ok (.iadd, 1) := by decide +kernel
theorem dX7_beginComponent_20 : decode cX7_beginComponent 20 = .ok (.putfield 157, 3) := by decide +kernel
theorem dX7_beginComponent_23 : decode cX7_beginComponent 23 = .ok (.aload_n 0, 1) := by decide +kernel
theorem dX7_beginComponent_24 : decode cX7_beginComponent 24 = .ok (.getfield 45, 3) := by decide +kernel
theorem dX7_beginComponent_27 : decode cX7_beginComponent 27 = .ok (.aload_n 0, 1) := by decide +kernel
theorem dX7_beginComponent_28 : decode cX7_beginComponent 28 = .ok (.getfield 157, 3) := by decide +kernel
theorem dX7_beginComponent_31 : decode cX7_beginComponent 31 = .ok (.aload_n 0, 1) := by decide +kernel
theorem dX7_beginComponent_32 : decode cX7_beginComponent 32 = .ok (.getfield 160, 3) := by decide +kernel
theorem dX7_beginComponent_35 : decode cX7_beginComponent 35 = .ok (.iastore, 1) := by decide +kernel
theorem dX7_beginComponent_36 : decode cX7_beginComponent 36 = .ok (.return_, 1) := by decide +kernel
theorem dX7_beginElement_0 : decode cX7_beginElement 0 = .ok (.aload_n 0, 1) := by decide +kernel
theorem dX7_beginElement_1 : decode cX7_beginElement 1 = .ok (.getfield 42, 3) := by decide +kernel
theorem dX7_beginElement_4 : decode cX7_beginElement 4 = .ok (.aload_n 0, 1) := by decide +kernel
theorem dX7_beginElement_5 : decode cX7_beginElement 5 = .ok (.getfield 163, 3) := by decide +kernel
theorem dX7_beginElement_8 : decode cX7_beginElement 8 = .ok (.aload_n 0, 1) := by decide +kernel
theorem dX7_beginElement_9 : decode cX7_beginElement 9 = .ok (.getfield 157, 3) := by decide +kernel
theorem dX7_beginElement_12 : decode cX7_beginElement 12 = .ok (.iastore, 1) := by decide +kernel
theorem dX7_beginElement_13 : decode cX7_beginElement 13 = .ok (.aload_n 0, 1) := by decide +kernel
theorem dX7_beginElement_14 : decode cX7_beginElement 14 = .ok (.dup, 1) := by decide +kernel
theorem dX7_beginElement_15 : decode cX7_beginElement 15 = .ok (.getfield 163, 3) := by decide +kernel
theorem dX7_beginElement_18 : decode cX7_beginElement 18 = .ok (.iconst 1, 1) := by decide +kernel
theorem dX7_beginElement_19 : decode cX7_beginElement 19 = .ok (.iadd, 1) := by decide +kernel
theorem dX7_beginElement_20 : decode cX7_beginElement 20 = .ok (.putfield 163, 3) := by decide +kernel
theorem dX7_beginElement_23 : decode cX7_beginElement 23 = .ok (.aload_n 0, 1) := by decide +kernel
theorem dX7_beginElement_24 : decode cX7_beginElement 24 = .ok (.invokevirtual 166, 3) := by decide +kernel
theorem dX7_beginElement_27 : decode cX7_beginElement 27 = .ok (.aload_n 0, 1) := by decide +kernel
theorem dX7_beginElement_28 : decode cX7_beginElement 28 = .ok (.getfield 42, 3) := by decide +kernel
theorem dX7_beginElement_31 : decode cX7_beginElement 31 = .ok (.aload_n 0, 1) := by decide +kernel
theorem dX7_beginElement_32 : decode cX7_beginElement 32 = .ok (.getfield 163, 3) := by decide +kernel
theorem dX7_beginElement_35 : decode cX7_beginElement 35 = .ok (.aload_n 0, 1) := by decide +kernel
theorem dX7_beginElement_36 : decode cX7_beginElement 36 = .ok (.getfield 157, 3) := by decide +kernel
theorem dX7_beginElement_39 : decode cX7_beginElement 39 = .ok (.iastore, 1) := by decide +kernel
theorem dX7_beginElement_40 : decode cX7_beginElement 40 = .ok (.return_, 1) := by decide +kernel
theorem dX7_put_0 : decode cX7_put 0 = .ok (.aload_n 0, 1) := by decide +kernel
theorem dX7_put_1 : decode cX7_put 1 = .ok (.getfield 48, 3) := by decide +kernel
theorem dX7_put_4 : decode cX7_put 4 = .ok (.aload_n 0, 1) := by decide +kernel
theorem dX7_put_5 : decode cX7_put 5 = .ok (.getfield 160, 3) := by decide +kernel
theorem dX7_put_8 : decode cX7_put 8 = .ok (.iload_n 1, 1) := by decide +kernel
theorem dX7_put_9 : decode cX7_put 9 = .ok (.iastore, 1) := by decide +kernel
theorem dX7_put_10 : decode cX7_put 10 = .ok (.aload_n 0, 1) := by decide +kernel
theorem dX7_put_11 : decode cX7_put 11 = .ok (.dup, 1) := by decide +kernel
theorem dX7_put_12 : decode cX7_put 12 = .ok (.getfield 160, 3) := by decide +kernel
theorem dX7_put_15 : decode cX7_put 15 = .ok (.iconst 1, 1) := by decide +kernel
theorem dX7_put_16 : decode cX7_put 16 = .ok (.iadd, 1) := by decide +kernel
theorem dX7_put_17 : decode cX7_put 17 = .ok (.putfield 160, 3) := by decide +kernel
theorem dX7_put_20 : decode cX7_put 20 = .ok (.aload_n 0, 1) := by decide +kernel
theorem dX7_put_21 : decode cX7_put 21 = .ok (.getfield 45, 3) := by decide +kernel
theorem dX7_put_24 : decode cX7_put 24 = .ok (.aload_n 0, 1) := by decide +kernel
theorem dX7_put_25 : decode cX7_put 25 = .ok (.getfield 157, 3) := by decide +kernel
theorem dX7_put_28 : decode cX7_put 28 = .ok (.aload_n 0, 1) := by decide +kernel
theorem dX7_put_29 : decode cX7_put 29 = .ok (.getfield 160, 3) := by decide +kernel
theorem dX7_put_32 : decode cX7_put 32 = .ok (.iastore, 1) := by decide +kernel
theorem dX7_put_33 : decode cX7_put 33 = .ok (.return_, 1) := by decide +kernel
theorem dX7_next_0 : decode cX7_next 0 = .ok (.iload_n 1, 1) := by decide +kernel
theorem dX7_next_1 : decode cX7_next 1 = .ok (.iconst 3, 1) := by decide +kernel
theorem dX7_next_2 : decode cX7_next 2 = .ok (.if_icmp .ge 56, 3) := by decide +kernel
theorem dX7_next_5 : decode cX7_next 5 = .ok (.iload_n 2, 1) := by decide +kernel
theorem dX7_next_6 : decode cX7_next 6 = .ok (.invokestatic 108, 3) := by decide +kernel
theorem dX7_next_9 : decode cX7_next 9 = .ok (.ifCond .eq 12, 3) := by decide +kernel
theorem dX7_next_12 : decode cX7_next 12 = .ok (.aload_n 0, 1) := by decide +kernel
theorem dX7_next_13 : decode cX7_next 13 = .ok (.getfield 169, 3) := by decide +kernel
theorem dX7_next_16 : decode cX7_next 16 = .ok (.bipush 40, 2) := by decide +kernel
theorem dX7_next_18 : decode cX7_next 18 = .ok (.if_icmp .ne 5, 3) := by decide +kernel
theorem dX7_next_21 : decode cX7_next 21 = .ok (.iconst (-1), 1) := by decide +kernel
theorem dX7_next_22 : decode cX7_next 22 = .ok (.ireturn, 1) := by decide +kernel
theorem dX7_next_23 : decode cX7_next 23 = .ok (.aload_n 0, 1) := by decide +kernel
theorem dX7_next_24 : decode cX7_next 24 = .ok (.getfield 36, 3) := by decide +kernel
theorem dX7_next_27 : decode cX7_next 27 = .ok (.aload_n 0, 1) := by decide +kernel
theorem dX7_next_28 : decode cX7_next 28 = .ok (.getfield 169, 3) := by decide +kernel
theorem dX7_next_31 : decode cX7_next 31 = .ok (.iload_n 1, 1) := by decide +kernel
theorem dX7_next_32 : decode cX7_next 32 = .ok (.ifCond .ne 7, 3) := by decide +kernel
theorem dX7_next_35 : decode cX7_next 35 = .ok (.iload_n 2, 1) := by decide +kernel
theorem dX7_next_36 : decode cX7_next 36 = .ok (.goto 17, 3) := by decide +kernel
theorem dX7_next_39 : decode cX7_next 39 = .ok (.aload_n 0, 1) := by decide +kernel
theorem dX7_next_40 : decode cX7_next 40 = .ok (.getfield 36, 3) := by decide +kernel
theorem dX7_next_43 : decode cX7_next 43 = .ok (.aload_n 0, 1) := by decide +kernel
theorem dX7_next_44 : decode cX7_next 44 = .ok (.getfield 169, 3) := by decide +kernel
theorem dX7_next_47 : decode cX7_next 47 = .ok (.iaload, 1) := by decide +kernel
theorem dX7_next_48 : decode cX7_next 48 = .ok (.bipush 8, 2) := by decide +kernel
theorem dX7_next_50 : decode cX7_next 50 = .ok (.ishl, 1) := by decide +kernel
theorem dX7_next_51 : decode cX7_next 51 = .ok (.iload_n 2, 1) := by decide +kernel
theorem dX7_next_52 : decode cX7_next 52 = .ok (.ior, 1) := by decide +kernel
theorem dX7_next_53 : decode cX7_next 53 = .ok (.iastore, 1) := by decide +kernel
theorem dX7_next_54 : decode cX7_next 54 = .ok (.iload_n 1, 1) := by decide +kernel
theorem dX7_next_55 : decode cX7_next 55 = .ok (.iconst 1, 1) := by decide +kernel
theorem dX7_next_56 : decode cX7_next 56 = .ok (.iadd, 1) := by decide +kernel
theorem dX7_next_57 : decode cX7_next 57 = .ok (.ireturn, 1) := by decide +kernel
theorem dX7_next_58 : decode cX7_next 58 = .ok (.iload_n 1, 1) := by decide +kernel
theorem dX7_next_59 : decode cX7_next 59 = .ok (.iconst 5, 1) := by decide +kernel
theorem dX7_next_60 : decode cX7_next 60 = .ok (.if_icmp .ne 10, 3) := by decide +kernel
theorem dX7_next_63 : decode cX7_next 63 = .ok (.aload_n 0, 1) := by decide +kernel
theorem dX7_next_64 : decode cX7_next 64 = .ok (.iload_n 2, 1) := by decide +kernel
theorem dX7_next_65 : decode cX7_next 65 = .ok (.invokevirtual 172, 3) := by decide +kernel
theorem dX7_next_68 : decode cX7_next 68 = .ok (.iconst 4, 1) := by decide +kernel
theorem dX7_next_69 : decode cX7_next 69 = .ok (.ireturn, 1) := by decide +kernel
theorem dX7_next_70 : decode cX7_next 70 = .ok (.iload_n 2, 1) := by decide +kernel
theorem dX7_next_71 : decode cX7_next 71 = .ok (.aload_n 0, 1) := by decide +kernel
theorem dX7_next_72 : decode cX7_next 72 = .ok (.getfield 151, 3) := by decide +kernel
theorem dX7_next_75 : decode cX7_next 75 = .ok (.if_icmp .ne 28, 3) := by decide +kernel
theorem dX7_next_78 : decode cX7_next 78 = .ok (.aload_n 0, 1) := by decide +kernel
theorem dX7_next_79 : decode cX7_next 79 = .ok (.dup, 1) := by decide +kernel
theorem dX7_next_80 : decode cX7_next 80 = .ok (.getfield 169, 3) := by decide +kernel
theorem dX7_next_83 : decode cX7_next 83 = .ok (.iconst 1, 1) := by decide +kernel
theorem dX7_next_84 : decode cX7_next 84 = .ok (.iadd, 1) := by decide +kernel
theorem dX7_next_85 : decode cX7_next 85 = .ok (.putfield 169, 3) := by decide +kernel
theorem dX7_next_88 : decode cX7_next 88 = .ok (.aload_n 0, 1) := by decide +kernel
theorem dX7_next_89 : decode cX7_next 89 = .ok (.getfield 39, 3) := by decide +kernel
theorem dX7_next_92 : decode cX7_next 92 = .ok (.aload_n 0, 1) := by decide +kernel
theorem dX7_next_93 : decode cX7_next 93 = .ok (.getfield 169, 3) := by decide +kernel
theorem dX7_next_96 : decode cX7_next 96 = .ok (.aload_n 0, 1) := by decide +kernel
theorem dX7_next_97 : decode cX7_next 97 = .ok (.getfield 163, 3) := by decide +kernel
theorem dX7_next_100 : decode cX7_next 100 = .ok (.iastore, 1) := by decide +kernel
theorem dX7_next_101 : decode cX7_next 101 = .ok (.iconst 0, 1) := by decide +kernel
theorem dX7_next_102 : decode cX7_next 102 = .ok (.ireturn, 1) := by decide +kernel
theorem dX7_next_103 : decode cX7_next 103 = .ok (.iload_n 2, 1) := by decide +kernel
theorem dX7_next_104 : decode cX7_next 104 = .ok (.aload_n 0, 1) := by decide +kernel
theorem dX7_next_105 : decode cX7_next 105 = .ok (.getfield 145, 3) := by decide +kernel
theorem dX7_next_108 : decode cX7_next 108 = .ok (.if_icmp .ne 20, 3) := by decide +kernel
theorem dX7_next_111 : decode cX7_next 111 = .ok (.aload_n 0, 1) := by decide +kernel
theorem dX7_next_112 : decode cX7_next 112 = .ok (.getfield 157, 3) := by decide +kernel
theorem dX7_next_115 : decode cX7_next 115 = .ok (.bipush 120, 2) := by decide +kernel
theorem dX7_next_117 : decode cX7_next 117 = .ok (.if_icmp .ne 5, 3) := by decide +kernel
theorem dX7_next_120 : decode cX7_next 120 = .ok (.iconst (-1), 1) := by decide +kernel
theorem dX7_next_121 : decode cX7_next 121 = .ok (.ireturn, 1) := by decide +kernel
theorem dX7_next_122 : decode cX7_next 122 = .ok (.aload_n 0, 1) := by decide +kernel
theorem dX7_next_123 : decode cX7_next 123 = .ok (.invokevirtual 176, 3) := by decide +kernel
theorem dX7_next_126 : decode cX7_next 126 = .ok (.iconst 4, 1) := by decide +kernel
theorem dX7_next_127 : decode cX7_next 127 = .ok (.ireturn, 1) := by decide +kernel
theorem dX7_next_128 : decode cX7_next 128 = .ok (.iload_n 1, 1) := by decide +kernel
theorem dX7_next_129 : decode cX7_next 129 = .ok (.iconst 3, 1) := by decide +kernel
theorem dX7_next_130 : decode cX7_next 130 = .ok (.if_icmp .ne 5, 3) := by decide +kernel
theorem dX7_next_133 : decode cX7_next 133 = .ok (.iconst (-1), 1) := by decide +kernel
theorem dX7_next_134 : decode cX7_next 134 = .ok (.ireturn, 1) := by decide +kernel
theorem dX7_next_135 : decode cX7_next 135 = .ok (.iload_n 2, 1) := by decide +kernel
theorem dX7_next_136 : decode cX7_next 136 = .ok (.aload_n 0, 1) := by decide +kernel
theorem dX7_next_137 : decode cX7_next 137 = .ok (.getfield 142, 3) := by decide +kernel
theorem dX7_next_140 : decode cX7_next 140 = .ok (.if_icmp .ne 33, 3) := by decide +kernel
theorem dX7_next_143 : decode cX7_next 143 = .ok (.aload_n 0, 1) := by decide +kernel
theorem dX7_next_144 : decode cX7_next 144 = .ok (.getfield 157, 3) := by decide +kernel
theorem dX7_next_147 : decode cX7_next 147 = .ok (.bipush 120, 2) := by decide +kernel
theorem dX7_next_149 : decode cX7_next 149 = .ok (.if_icmp .ne 5, 3) := by decide +kernel
theorem dX7_next_152 : decode cX7_next 152 = .ok (.iconst (-1), 1) := by decide +kernel
theorem dX7_next_153 : decode cX7_next 153 = .ok (.ireturn, 1) := by decide +kernel
theorem dX7_next_154 : decode cX7_next 154 = .ok (.aload_n 0, 1) := by decide +kernel
theorem dX7_next_155 : decode cX7_next 155 = .ok (.invokevirtual 166, 3) := by decide +kernel
theorem dX7_next_158 : decode cX7_next 158 = .ok (.aload_n 0, 1) := by decide +kernel
theorem dX7_next_159 : decode cX7_next 159 = .ok (.getfield 42, 3) := by decide +kernel
theorem dX7_next_162 : decode cX7_next 162 = .ok (.aload_n 0, 1) := by decide +kernel
theorem dX7_next_163 : decode cX7_next 163 = .ok (.getfield 163, 3) := by decide +kernel
theorem dX7_next_166 : decode cX7_next 166 = .ok (.aload_n 0, 1) := by decide +kernel
theorem dX7_next_167 : decode cX7_next 167 = .ok (.getfield 157, 3) := by decide +kernel
theorem dX7_next_170 : decode cX7_next 170 = .ok (.iastore, 1) := by decide +kernel
theorem dX7_next_171 : decode cX7_next 171 = .ok (.iconst 4, 1) := by decide +kernel
theorem dX7_next_172 : decode cX7_next 172 = .ok (.ireturn, 1) := by decide +kernel
theorem dX7_next_173 : decode cX7_next 173 = .ok (.iload_n 2, 1) := by decide +kernel
theorem dX7_next_174 : decode cX7_next 174 = .ok (.aload_n 0, 1) := by decide +kernel
theorem dX7_next_175 : decode cX7_next 175 = .ok (.getfield 148, 3) := by decide +kernel
theorem dX7_next_178 : decode cX7_next 178 = .ok (.if_icmp .ne 5, 3) := by decide +kernel
theorem dX7_next_181 : decode cX7_next 181 = .ok (.iconst 5, 1) := by decide +kernel
theorem dX7_next_182 : decode cX7_next 182 = .ok (.ireturn, 1) := by decide +kernel
theorem dX7_next_183 : decode cX7_next 183 = .ok (.aload_n 0, 1) := by decide +kernel
theorem dX7_next_184 : decode cX7_next 184 = .ok (.iload_n 2, 1) := by decide +kernel
theorem dX7_next_185 : decode cX7_next 185 = .ok (.invokevirtual 172, 3) := by decide +kernel
theorem dX7_next_188 : decode cX7_next 188 = .ok (.iconst 4, 1) := by decide +kernel
theorem dX7_next_189 : decode cX7_next 189 = .ok (.ireturn, 1) := by decide +kernel
theorem dX7_scans_0 : decode cX7_scans 0 = .ok (.aload_n 0, 1) := by decide +kernel
theorem dX7_scans_1 : decode cX7_scans 1 = .ok (.invokevirtual 179, 3) := by decide +kernel
theorem dX7_scans_4 : decode cX7_scans 4 = .ok (.istore_n 1, 1) := by decide +kernel
theorem dX7_scans_5 : decode cX7_scans 5 = .ok (.iload_n 1, 1) := by decide +kernel
theorem dX7_scans_6 : decode cX7_scans 6 = .ok (.ifCond .ge 5, 3) := by decide +kernel
theorem dX7_scans_9 : decode cX7_scans 9 = .ok (.iconst 0, 1) := by decide +kernel
theorem dX7_scans_10 : decode cX7_scans 10 = .ok (.ireturn, 1) := by decide +kernel
theorem dX7_scans_11 : decode cX7_scans 11 = .ok (.aload_n 0, 1) := by decide +kernel
theorem dX7_scans_12 : decode cX7_scans 12 = .ok (.iconst 0, 1) := by decide +kernel
theorem dX7_scans_13 : decode cX7_scans 13 = .ok (.putfield 169, 3) := by decide +kernel
theorem dX7_scans_16 : decode cX7_scans 16 = .ok (.aload_n 0, 1) := by decide +kernel
theorem dX7_scans_17 : decode cX7_scans 17 = .ok (.iconst 0, 1) := by decide +kernel
theorem dX7_scans_18 : decode cX7_scans 18 = .ok (.putfield 163, 3) := by decide +kernel
theorem dX7_scans_21 : decode cX7_scans 21 = .ok (.aload_n 0, 1) := by decide +kernel
theorem dX7_scans_22 : decode cX7_scans 22 = .ok (.iconst 0, 1) := by decide +kernel
theorem dX7_scans_23 : decode cX7_scans 23 = .ok (.putfield 157, 3) := by decide +kernel
theorem dX7_scans_26 : decode cX7_scans 26 = .ok (.aload_n 0, 1) := by decide +kernel
theorem dX7_scans_27 : decode cX7_scans 27 = .ok (.iconst 0, 1) := by decide +kernel
theorem dX7_scans_28 : decode cX7_scans 28 = .ok (.putfield 160, 3) := by decide +kernel
theorem dX7_scans_31 : decode cX7_scans 31 = .ok (.aload_n 0, 1) := by decide +kernel
theorem dX7_scans_32 : decode cX7_scans 32 = .ok (.getfield 39, 3) := by decide +kernel
theorem dX7_scans_35 : decode cX7_scans 35 = .ok (.iconst 0, 1) := by decide +kernel
theorem dX7_scans_36 : decode cX7_scans 36 = .ok (.iconst 0, 1) := by decide +kernel
theorem dX7_scans_37 : decode cX7_scans 37 = .ok (.iastore, 1) := by decide +kernel
theorem dX7_scans_38 : decode cX7_scans 38 = .ok (.aload_n 0, 1) := by decide +kernel
theorem dX7_scans_39 : decode cX7_scans 39 = .ok (.getfield 42, 3) := by decide +kernel
theorem dX7_scans_42 : decode cX7_scans 42 = .ok (.iconst 0, 1) := by decide +kernel
theorem dX7_scans_43 : decode cX7_scans 43 = .ok (.iconst 0, 1) := by decide +kernel
theorem dX7_scans_44 : decode cX7_scans 44 = .ok (.iastore, 1) := by decide +kernel
theorem dX7_scans_45 : decode cX7_scans 45 = .ok (.aload_n 0, 1) := by decide +kernel
theorem dX7_scans_46 : decode cX7_scans 46 = .ok (.getfield 45, 3) := by decide +kernel
theorem dX7_scans_49 : decode cX7_scans 49 = .ok (.iconst 0, 1) := by decide +kernel
theorem dX7_scans_50 : decode cX7_scans 50 = .ok (.iconst 0, 1) := by decide +kernel
theorem dX7_scans_51 : decode cX7_scans 51 = .ok (.iastore, 1) := by decide +kernel
theorem dX7_scans_52 : decode cX7_scans 52 = .ok (.iconst 0, 1) := by decide +kernel
theorem dX7_scans_53 : decode cX7_scans 53 = .ok (.istore_n 2, 1) := by decide +kernel
theorem dX7_scans_54 : decode cX7_scans 54 = .ok (.iload_n 1, 1) := by decide +kernel
theorem dX7_scans_55 : decode cX7_scans 55 = .ok (.aload_n 0, 1) := by decide +kernel
theorem dX7_scans_56 : decode cX7_scans 56 = .ok (.getfield 105, 3) := by decide +kernel
theorem dX7_scans_59 : decode cX7_scans 59 = .ok (.if_icmp .ge 30, 3) := by decide +kernel
theorem dX7_scans_62 : decode cX7_scans 62 = .ok (.iload_n 2, 1) := by decide +kernel
theorem dX7_scans_63 : decode cX7_scans 63 = .ok (.ifCond .lt 26, 3) := by decide +kernel
theorem dX7_scans_66 : decode cX7_scans 66 = .ok (.aload_n 0, 1) := by decide +kernel
theorem dX7_scans_67 : decode cX7_scans 67 = .ok (.iload_n 1, 1) := by decide +kernel
theorem dX7_scans_68 : decode cX7_scans 68 = .ok (.putfield 32, 3) := by decide +kernel
theorem dX7_scans_71 : decode cX7_scans 71 = .ok (.aload_n 0, 1) := by decide +kernel
theorem dX7_scans_72 : decode cX7_scans 72 = .ok (.iload_n 2, 1) := by decide +kernel
theorem dX7_scans_73 : decode cX7_scans 73 = .ok (.aload_n 0, 1) := by decide +kernel
theorem dX7_scans_74 : decode cX7_scans 74 = .ok (.getfield 7, 3) := by decide +kernel
theorem dX7_scans_77 : decode cX7_scans 77 = .ok (.iload_n 1, 1) := by decide +kernel
theorem dX7_scans_78 : decode cX7_scans 78 = .ok (.iaload, 1) := by decide +kernel
theorem dX7_scans_79 : decode cX7_scans 79 = .ok (.invokevirtual 183, 3) := by decide +kernel
theorem dX7_scans_82 : decode cX7_scans 82 = .ok (.istore_n 2, 1) := by decide +kernel
theorem dX7_scans_83 : decode cX7_scans 83 = .ok (.iinc 1 1, 3) := by decide +kernel
theorem dX7_scans_86 : decode cX7_scans 86 = .ok (.goto (-32), 3) := by decide +kernel
theorem dX7_scans_89 : decode cX7_scans 89 = .ok (.iload_n 2, 1) := by decide +kernel
theorem dX7_scans_90 : decode cX7_scans 90 = .ok (.ifCond .ge 5, 3) := by decide +kernel
theorem dX7_scans_93 : decode cX7_scans 93 = .ok (.iconst 0, 1) := by decide +kernel
theorem dX7_scans_94 : decode cX7_scans 94 = .ok (.ireturn, 1) := by decide +kernel
theorem dX7_scans_95 : decode cX7_scans 95 = .ok (.aload_n 0, 1) := by decide +kernel
theorem dX7_scans_96 : decode cX7_scans 96 = .ok (.aload_n 0, 1) := by decide +kernel
theorem dX7_scans_97 : decode cX7_scans 97 = .ok (.getfield 105, 3) := by decide +kernel
theorem dX7_scans_100 : decode cX7_scans 100 = .ok (.putfield 32, 3) := by decide +kernel
theorem dX7_scans_103 : decode cX7_scans 103 = .ok (.iload_n 2, 1) := by decide +kernel
theorem dX7_scans_104 : decode cX7_scans 104 = .ok (.ifCond .ne 14, 3) := by decide +kernel
theorem dX7_scans_107 : decode cX7_scans 107 = .ok (.aload_n 0, 1) := by decide +kernel
theorem dX7_scans_108 : decode cX7_scans 108 = .ok (.getfield 169, 3) := by decide +kernel
theorem dX7_scans_111 : decode cX7_scans 111 = .ok (.ifCond .le 7, 3) := by decide +kernel
theorem dX7_scans_114 : decode cX7_scans 114 = .ok (.iconst 1, 1) := by decide +kernel
theorem dX7_scans_115 : decode cX7_scans 115 = .ok (.goto 4, 3) := by decide +kernel
theorem dX7_scans_118 : decode cX7_scans 118 = .ok (.iconst 0, 1) := by decide +kernel
theorem dX7_scans_119 : decode cX7_scans 119 = .ok (.ireturn, 1) := by decide +kernel
theorem dX7_wraps_0 : decode cX7_wraps 0 = .ok (.aload_n 0, 1) := by decide +kernel
theorem dX7_wraps_1 : decode cX7_wraps 1 = .ok (.getfield 169, 3) := by decide +kernel
theorem dX7_wraps_4 : decode cX7_wraps 4 = .ok (.istore_n 1, 1) := by decide +kernel
theorem dX7_wraps_5 : decode cX7_wraps 5 = .ok (.iload_n 1, 1) := by decide +kernel
theorem dX7_wraps_6 : decode cX7_wraps 6 = .ok (.iconst 4, 1) := by decide +kernel
theorem dX7_wraps_7 : decode cX7_wraps 7 = .ok (.if_icmp .lt 27, 3) := by decide +kernel
theorem dX7_wraps_10 : decode cX7_wraps 10 = .ok (.aload_n 0, 1) := by decide +kernel
theorem dX7_wraps_11 : decode cX7_wraps 11 = .ok (.getfield 36, 3) := by decide +kernel
theorem dX7_wraps_14 : decode cX7_wraps 14 = .ok (.iconst 0, 1) := by decide +kernel
theorem dX7_wraps_15 : decode cX7_wraps 15 = .ok (.iaload, 1) := by decide +kernel
theorem dX7_wraps_16 : decode cX7_wraps 16 = .ok (.ldc 112, 2) := by decide +kernel
theorem dX7_wraps_18 : decode cX7_wraps 18 = .ok (.if_icmp .ne 16, 3) := by decide +kernel
theorem dX7_wraps_21 : decode cX7_wraps 21 = .ok (.aload_n 0, 1) := by decide +kernel
theorem dX7_wraps_22 : decode cX7_wraps 22 = .ok (.getfield 36, 3) := by decide +kernel
theorem dX7_wraps_25 : decode cX7_wraps 25 = .ok (.iload_n 1, 1) := by decide +kernel
theorem dX7_wraps_26 : decode cX7_wraps 26 = .ok (.iconst 1, 1) := by decide +kernel
theorem dX7_wraps_27 : decode cX7_wraps 27 = .ok (.isub, 1) := by decide +kernel
theorem dX7_wraps_28 : decode cX7_wraps 28 = .ok (.iaload, 1) := by decide +kernel
theorem dX7_wraps_29 : decode cX7_wraps 29 = .ok (.ldc 113, 2) := by decide +kernel
theorem dX7_wraps_31 : decode cX7_wraps 31 = .ok (.if_icmp .eq 5, 3) := by decide +kernel
theorem dX7_wraps_34 : decode cX7_wraps 34 = .ok (.iconst 0, 1) := by decide +kernel
theorem dX7_wraps_35 : decode cX7_wraps 35 = .ok (.ireturn, 1) := by decide +kernel
theorem dX7_wraps_36 : decode cX7_wraps 36 = .ok (.aload_n 0, 1) := by decide +kernel
theorem dX7_wraps_37 : decode cX7_wraps 37 = .ok (.getfield 36, 3) := by decide +kernel
theorem dX7_wraps_40 : decode cX7_wraps 40 = .ok (.iconst 1, 1) := by decide +kernel
theorem dX7_wraps_41 : decode cX7_wraps 41 = .ok (.iaload, 1) := by decide +kernel
theorem dX7_wraps_42 : decode cX7_wraps 42 = .ok (.ldc 114, 2) := by decide +kernel
theorem dX7_wraps_44 : decode cX7_wraps 44 = .ok (.if_icmp .ne 7, 3) := by decide +kernel
theorem dX7_wraps_47 : decode cX7_wraps 47 = .ok (.iconst 1, 1) := by decide +kernel
theorem dX7_wraps_48 : decode cX7_wraps 48 = .ok (.goto 4, 3) := by decide +kernel
theorem dX7_wraps_51 : decode cX7_wraps 51 = .ok (.iconst 0, 1) := by decide +kernel
theorem dX7_wraps_52 : decode cX7_wraps 52 = .ok (.istore_n 2, 1) := by decide +kernel
theorem dX7_wraps_53 : decode cX7_wraps 53 = .ok (.iconst 1, 1) := by decide +kernel
theorem dX7_wraps_54 : decode cX7_wraps 54 = .ok (.istore_n 3, 1) := by decide +kernel
theorem dX7_wraps_55 : decode cX7_wraps 55 = .ok (.iload_n 3, 1) := by decide +kernel
theorem dX7_wraps_56 : decode cX7_wraps 56 = .ok (.iload_n 1, 1) := by decide +kernel
theorem dX7_wraps_57 : decode cX7_wraps 57 = .ok (.iconst 1, 1) := by decide +kernel
theorem dX7_wraps_58 : decode cX7_wraps 58 = .ok (.isub, 1) := by decide +kernel
theorem dX7_wraps_59 : decode cX7_wraps 59 = .ok (.if_icmp .ge 151, 3) := by decide +kernel
theorem dX7_wraps_62 : decode cX7_wraps 62 = .ok (.iload_n 2, 1) := by decide +kernel
theorem dX7_wraps_63 : decode cX7_wraps 63 = .ok (.ifCond .eq 16, 3) := by decide +kernel
theorem dX7_wraps_66 : decode cX7_wraps 66 = .ok (.aload_n 0, 1) := by decide +kernel
theorem dX7_wraps_67 : decode cX7_wraps 67 = .ok (.getfield 36, 3) := by decide +kernel
theorem dX7_wraps_70 : decode cX7_wraps 70 = .ok (.iload_n 3, 1) := by decide +kernel
theorem dX7_wraps_71 : decode cX7_wraps 71 = .ok (.iaload, 1) := by decide +kernel
theorem dX7_wraps_72 : decode cX7_wraps 72 = .ok (.ldc 114, 2) := by decide +kernel
theorem dX7_wraps_74 : decode cX7_wraps 74 = .ok (.if_icmp .eq 5, 3) := by decide +kernel
theorem dX7_wraps_77 : decode cX7_wraps 77 = .ok (.iconst 0, 1) := by decide +kernel
theorem dX7_wraps_78 : decode cX7_wraps 78 = .ok (.ireturn, 1) := by decide +kernel
theorem dX7_wraps_79 : decode cX7_wraps 79 = .ok (.iload_n 2, 1) := by decide +kernel
theorem dX7_wraps_80 : decode cX7_wraps 80 = .ok (.ifCond .eq 9, 3) := by decide +kernel
theorem dX7_wraps_83 : decode cX7_wraps 83 = .ok (.iload_n 3, 1) := by decide +kernel
theorem dX7_wraps_84 : decode cX7_wraps 84 = .ok (.iconst 1, 1) := by decide +kernel
theorem dX7_wraps_85 : decode cX7_wraps 85 = .ok (.iadd, 1) := by decide +kernel
theorem dX7_wraps_86 : decode cX7_wraps 86 = .ok (.goto 4, 3) := by decide +kernel
theorem dX7_wraps_89 : decode cX7_wraps 89 = .ok (.iload_n 3, 1) := by decide +kernel
theorem dX7_wraps_90 : decode cX7_wraps 90 = .ok (.istore_n 3, 1) := by decide +kernel
theorem dX7_wraps_91 : decode cX7_wraps 91 = .ok (.iconst 0, 1) := by decide +kernel
theorem dX7_wraps_92 : decode cX7_wraps 92 = .ok (.istore 4, 2) := by decide +kernel
theorem dX7_wraps_94 : decode cX7_wraps 94 = .ok (.iload_n 3, 1) := by decide +kernel
theorem dX7_wraps_95 : decode cX7_wraps 95 = .ok (.iload_n 1, 1) := by decide +kernel
theorem dX7_wraps_96 : decode cX7_wraps 96 = .ok (.iconst 1, 1) := by decide +kernel
theorem dX7_wraps_97 : decode cX7_wraps 97 = .ok (.isub, 1) := by decide +kernel
theorem dX7_wraps_98 : decode cX7_wraps 98 = .ok (.if_icmp .ge 64, 3) := by decide +kernel
theorem dX7_wraps_101 : decode cX7_wraps 101 = .ok (.aload_n 0, 1) := by decide +kernel
theorem dX7_wraps_102 : decode cX7_wraps 102 = .ok (.getfield 36, 3) := by decide +kernel
theorem dX7_wraps_105 : decode cX7_wraps 105 = .ok (.iload_n 3, 1) := by decide +kernel
theorem dX7_wraps_106 : decode cX7_wraps 106 = .ok (.iaload, 1) := by decide +kernel
theorem dX7_wraps_107 : decode cX7_wraps 107 = .ok (.ldc 116, 2) := by decide +kernel
theorem dX7_wraps_109 : decode cX7_wraps 109 = .ok (.if_icmp .ne 53, 3) := by decide +kernel
theorem dX7_wraps_112 : decode cX7_wraps 112 = .ok (.iinc 3 1, 3) := by decide +kernel
theorem dX7_wraps_115 : decode cX7_wraps 115 = .ok (.iload_n 3, 1) := by decide +kernel
theorem dX7_wraps_116 : decode cX7_wraps 116 = .ok (.iload_n 1, 1) := by decide +kernel
theorem dX7_wraps_117 : decode cX7_wraps 117 = .ok (.iconst 1, 1) := by decide +kernel
theorem dX7_wraps_118 : decode cX7_wraps 118 = .ok (.isub, 1) := by decide +kernel
theorem dX7_wraps_119 : decode cX7_wraps 119 = .ok (.if_icmp .ge 21, 3) := by decide +kernel
theorem dX7_wraps_122 : decode cX7_wraps 122 = .ok (.aload_n 0, 1) := by decide +kernel
theorem dX7_wraps_123 : decode cX7_wraps 123 = .ok (.getfield 36, 3) := by decide +kernel
theorem dX7_wraps_126 : decode cX7_wraps 126 = .ok (.iload_n 3, 1) := by decide +kernel
theorem dX7_wraps_127 : decode cX7_wraps 127 = .ok (.iaload, 1) := by decide +kernel
theorem dX7_wraps_128 : decode cX7_wraps 128 = .ok (.invokestatic 128, 3) := by decide +kernel
theorem dX7_wraps_131 : decode cX7_wraps 131 = .ok (.ifCond .ne 9, 3) := by decide +kernel
theorem dX7_wraps_134 : decode cX7_wraps 134 = .ok (.iinc 3 1, 3) := by decide +kernel
theorem dX7_wraps_137 : decode cX7_wraps 137 = .ok (.goto (-22), 3) := by decide +kernel
theorem dX7_wraps_140 : decode cX7_wraps 140 = .ok (.aload_n 0, 1) := by decide +kernel
theorem dX7_wraps_141 : decode cX7_wraps 141 = .ok (.getfield 36, 3) := by decide +kernel
theorem dX7_wraps_144 : decode cX7_wraps 144 = .ok (.iload_n 3, 1) := by decide +kernel
theorem dX7_wraps_145 : decode cX7_wraps 145 = .ok (.iaload, 1) := by decide +kernel
theorem dX7_wraps_146 : decode cX7_wraps 146 = .ok (.ldc 117, 2) := by decide +kernel
theorem dX7_wraps_148 : decode cX7_wraps 148 = .ok (.if_icmp .eq 5, 3) := by decide +kernel
theorem dX7_wraps_151 : decode cX7_wraps 151 = .ok (.iconst 0, 1) := by decide +kernel
theorem dX7_wraps_152 : decode cX7_wraps 152 = .ok (.ireturn, 1) := by decide +kernel
theorem dX7_wraps_153 : decode cX7_wraps 153 = .ok (.iinc 3 1, 3) := by decide +kernel
theorem dX7_wraps_156 : decode cX7_wraps 156 = .ok (.iinc 4 1, 3) := by decide +kernel
theorem dX7_wraps_159 : decode cX7_wraps 159 = .ok (.goto (-65), 3) := by decide +kernel
theorem dX7_wraps_162 : decode cX7_wraps 162 = .ok (.iload 4, 2) := by decide +kernel
theorem dX7_wraps_164 : decode cX7_wraps 164 = .ok (.ifCond .eq 29, 3) := by decide +kernel
theorem dX7_wraps_167 : decode cX7_wraps 167 = .ok (.iload_n 2, 1) := by decide +kernel
theorem dX7_wraps_168 : decode cX7_wraps 168 = .ok (.ifCond .eq 14, 3) := by decide +kernel
theorem dX7_wraps_171 : decode cX7_wraps 171 = .ok (.aload_n 0, 1) := by decide +kernel
theorem dX7_wraps_172 : decode cX7_wraps 172 = .ok (.getfield 36, 3) := by decide +kernel
theorem dX7_wraps_175 : decode cX7_wraps 175 = .ok (.iload_n 3, 1) := by decide +kernel
theorem dX7_wraps_176 : decode cX7_wraps 176 = .ok (.iaload, 1) := by decide +kernel
theorem dX7_wraps_177 : decode cX7_wraps 177 = .ok (.ldc 115, 2) := by decide +kernel
theorem dX7_wraps_179 : decode cX7_wraps 179 = .ok (.if_icmp .ne 14, 3) := by decide +kernel
theorem dX7_wraps_182 : decode cX7_wraps 182 = .ok (.iload_n 2, 1) := by decide +kernel
theorem dX7_wraps_183 : decode cX7_wraps 183 = .ok (.ifCond .ne 12, 3) := by decide +kernel
theorem dX7_wraps_186 : decode cX7_wraps 186 = .ok (.iload_n 3, 1) := by decide +kernel
theorem dX7_wraps_187 : decode cX7_wraps 187 = .ok (.iload_n 1, 1) := by decide +kernel
theorem dX7_wraps_188 : decode cX7_wraps 188 = .ok (.iconst 1, 1) := by decide +kernel
theorem dX7_wraps_189 : decode cX7_wraps 189 = .ok (.isub, 1) := by decide +kernel
theorem dX7_wraps_190 : decode cX7_wraps 190 = .ok (.if_icmp .ge 5, 3) := by decide +kernel
theorem dX7_wraps_193 : decode cX7_wraps 193 = .ok (.iconst 0, 1) := by decide +kernel
theorem dX7_wraps_194 : decode cX7_wraps 194 = .ok (.ireturn, 1) := by decide +kernel
theorem dX7_wraps_195 : decode cX7_wraps 195 = .ok (.iload_n 2, 1) := by decide +kernel
theorem dX7_wraps_196 : decode cX7_wraps 196 = .ok (.ifCond .eq 9, 3) := by decide +kernel
theorem dX7_wraps_199 : decode cX7_wraps 199 = .ok (.iload_n 3, 1) := by decide +kernel
theorem dX7_wraps_200 : decode cX7_wraps 200 = .ok (.iconst 1, 1) := by decide +kernel
theorem dX7_wraps_201 : decode cX7_wraps 201 = .ok (.iadd, 1) := by decide +kernel
theorem dX7_wraps_202 : decode cX7_wraps 202 = .ok (.goto 4, 3) := by decide +kernel
theorem dX7_wraps_205 : decode cX7_wraps 205 = .ok (.iload_n 3, 1) := by decide +kernel
theorem dX7_wraps_206 : decode cX7_wraps 206 = .ok (.istore_n 3, 1) := by decide +kernel
theorem dX7_wraps_207 : decode cX7_wraps 207 = .ok (.goto (-152), 3) := by decide +kernel
theorem dX7_wraps_210 : decode cX7_wraps 210 = .ok (.iconst 1, 1) := by decide +kernel
theorem dX7_wraps_211 : decode cX7_wraps 211 = .ok (.ireturn, 1) := by decide +kernel
theorem dX7_take_0 : decode cX7_take 0 = .ok (.aload_n 0, 1) := by decide +kernel
theorem dX7_take_1 : decode cX7_take 1 = .ok (.aload_n 0, 1) := by decide +kernel
theorem dX7_take_2 : decode cX7_take 2 = .ok (.getfield 169, 3) := by decide +kernel
theorem dX7_take_5 : decode cX7_take 5 = .ok (.putfield 187, 3) := by decide +kernel
theorem dX7_take_8 : decode cX7_take 8 = .ok (.aload_n 0, 1) := by decide +kernel
theorem dX7_take_9 : decode cX7_take 9 = .ok (.aload_n 0, 1) := by decide +kernel
theorem dX7_take_10 : decode cX7_take 10 = .ok (.getfield 163, 3) := by decide +kernel
theorem dX7_take_13 : decode cX7_take 13 = .ok (.putfield 190, 3) := by decide +kernel
theorem dX7_take_16 : decode cX7_take 16 = .ok (.aload_n 0, 1) := by decide +kernel
theorem dX7_take_17 : decode cX7_take 17 = .ok (.aload_n 0, 1) := by decide +kernel
theorem dX7_take_18 : decode cX7_take 18 = .ok (.getfield 157, 3) := by decide +kernel
theorem dX7_take_21 : decode cX7_take 21 = .ok (.putfield 193, 3) := by decide +kernel
theorem dX7_take_24 : decode cX7_take 24 = .ok (.iconst 0, 1) := by decide +kernel
theorem dX7_take_25 : decode cX7_take 25 = .ok (.istore_n 1, 1) := by decide +kernel
theorem dX7_take_26 : decode cX7_take 26 = .ok (.iload_n 1, 1) := by decide +kernel
theorem dX7_take_27 : decode cX7_take 27 = .ok (.aload_n 0, 1) := by decide +kernel
theorem dX7_take_28 : decode cX7_take 28 = .ok (.getfield 187, 3) := by decide +kernel
theorem dX7_take_31 : decode cX7_take 31 = .ok (.if_icmp .gt 33, 3) := by decide +kernel
theorem dX7_take_34 : decode cX7_take 34 = .ok (.aload_n 0, 1) := by decide +kernel
theorem dX7_take_35 : decode cX7_take 35 = .ok (.getfield 51, 3) := by decide +kernel
theorem dX7_take_38 : decode cX7_take 38 = .ok (.iload_n 1, 1) := by decide +kernel
theorem dX7_take_39 : decode cX7_take 39 = .ok (.aload_n 0, 1) := by decide +kernel
theorem dX7_take_40 : decode cX7_take 40 = .ok (.getfield 36, 3) := by decide +kernel
theorem dX7_take_43 : decode cX7_take 43 = .ok (.iload_n 1, 1) := by decide +kernel
theorem dX7_take_44 : decode cX7_take 44 = .ok (.iaload, 1) := by decide +kernel
theorem dX7_take_45 : decode cX7_take 45 = .ok (.iastore, 1) := by decide +kernel
theorem dX7_take_46 : decode cX7_take 46 = .ok (.aload_n 0, 1) := by decide +kernel
theorem dX7_take_47 : decode cX7_take 47 = .ok (.getfield 54, 3) := by decide +kernel
theorem dX7_take_50 : decode cX7_take 50 = .ok (.iload_n 1, 1) := by decide +kernel
theorem dX7_take_51 : decode cX7_take 51 = .ok (.aload_n 0, 1) := by decide +kernel
theorem dX7_take_52 : decode cX7_take 52 = .ok (.getfield 39, 3) := by decide +kernel
theorem dX7_take_55 : decode cX7_take 55 = .ok (.iload_n 1, 1) := by decide +kernel
theorem dX7_take_56 : decode cX7_take 56 = .ok (.iaload, 1) := by decide +kernel
theorem dX7_take_57 : decode cX7_take 57 = .ok (.iastore, 1) := by decide +kernel
theorem dX7_take_58 : decode cX7_take 58 = .ok (.iinc 1 1, 3) := by decide +kernel
theorem dX7_take_61 : decode cX7_take 61 = .ok (.goto (-35), 3) := by decide +kernel
theorem dX7_take_64 : decode cX7_take 64 = .ok (.iconst 0, 1) := by decide +kernel
theorem dX7_take_65 : decode cX7_take 65 = .ok (.istore_n 1, 1) := by decide +kernel
theorem dX7_take_66 : decode cX7_take 66 = .ok (.iload_n 1, 1) := by decide +kernel
theorem dX7_take_67 : decode cX7_take 67 = .ok (.aload_n 0, 1) := by decide +kernel
theorem dX7_take_68 : decode cX7_take 68 = .ok (.getfield 190, 3) := by decide +kernel
theorem dX7_take_71 : decode cX7_take 71 = .ok (.if_icmp .gt 21, 3) := by decide +kernel
theorem dX7_take_74 : decode cX7_take 74 = .ok (.aload_n 0, 1) := by decide +kernel
theorem dX7_take_75 : decode cX7_take 75 = .ok (.getfield 57, 3) := by decide +kernel
theorem dX7_take_78 : decode cX7_take 78 = .ok (.iload_n 1, 1) := by decide +kernel
theorem dX7_take_79 : decode cX7_take 79 = .ok (.aload_n 0, 1) := by decide +kernel
theorem dX7_take_80 : decode cX7_take 80 = .ok (.getfield 42, 3) := by decide +kernel
theorem dX7_take_83 : decode cX7_take 83 = .ok (.iload_n 1, 1) := by decide +kernel
theorem dX7_take_84 : decode cX7_take 84 = .ok (.iaload, 1) := by decide +kernel
theorem dX7_take_85 : decode cX7_take 85 = .ok (.iastore, 1) := by decide +kernel
theorem dX7_take_86 : decode cX7_take 86 = .ok (.iinc 1 1, 3) := by decide +kernel
theorem dX7_take_89 : decode cX7_take 89 = .ok (.goto (-23), 3) := by decide +kernel
theorem dX7_take_92 : decode cX7_take 92 = .ok (.iconst 0, 1) := by decide +kernel
theorem dX7_take_93 : decode cX7_take 93 = .ok (.istore_n 1, 1) := by decide +kernel
theorem dX7_take_94 : decode cX7_take 94 = .ok (.iload_n 1, 1) := by decide +kernel
theorem dX7_take_95 : decode cX7_take 95 = .ok (.aload_n 0, 1) := by decide +kernel
theorem dX7_take_96 : decode cX7_take 96 = .ok (.getfield 193, 3) := by decide +kernel
theorem dX7_take_99 : decode cX7_take 99 = .ok (.if_icmp .gt 21, 3) := by decide +kernel
theorem dX7_take_102 : decode cX7_take 102 = .ok (.aload_n 0, 1) := by decide +kernel
theorem dX7_take_103 : decode cX7_take 103 = .ok (.getfield 60, 3) := by decide +kernel
theorem dX7_take_106 : decode cX7_take 106 = .ok (.iload_n 1, 1) := by decide +kernel
theorem dX7_take_107 : decode cX7_take 107 = .ok (.aload_n 0, 1) := by decide +kernel
theorem dX7_take_108 : decode cX7_take 108 = .ok (.getfield 45, 3) := by decide +kernel
theorem dX7_take_111 : decode cX7_take 111 = .ok (.iload_n 1, 1) := by decide +kernel
theorem dX7_take_112 : decode cX7_take 112 = .ok (.iaload, 1) := by decide +kernel
theorem dX7_take_113 : decode cX7_take 113 = .ok (.iastore, 1) := by decide +kernel
theorem dX7_take_114 : decode cX7_take 114 = .ok (.iinc 1 1, 3) := by decide +kernel
theorem dX7_take_117 : decode cX7_take 117 = .ok (.goto (-23), 3) := by decide +kernel
theorem dX7_take_120 : decode cX7_take 120 = .ok (.iconst 0, 1) := by decide +kernel
theorem dX7_take_121 : decode cX7_take 121 = .ok (.istore_n 1, 1) := by decide +kernel
theorem dX7_take_122 : decode cX7_take 122 = .ok (.iload_n 1, 1) := by decide +kernel
theorem dX7_take_123 : decode cX7_take 123 = .ok (.aload_n 0, 1) := by decide +kernel
theorem dX7_take_124 : decode cX7_take 124 = .ok (.getfield 160, 3) := by decide +kernel
theorem dX7_take_127 : decode cX7_take 127 = .ok (.if_icmp .ge 21, 3) := by decide +kernel
theorem dX7_take_130 : decode cX7_take 130 = .ok (.aload_n 0, 1) := by decide +kernel
theorem dX7_take_131 : decode cX7_take 131 = .ok (.getfield 63, 3) := by decide +kernel
theorem dX7_take_134 : decode cX7_take 134 = .ok (.iload_n 1, 1) := by decide +kernel
theorem dX7_take_135 : decode cX7_take 135 = .ok (.aload_n 0, 1) := by decide +kernel
theorem dX7_take_136 : decode cX7_take 136 = .ok (.getfield 48, 3) := by decide +kernel
theorem dX7_take_139 : decode cX7_take 139 = .ok (.iload_n 1, 1) := by decide +kernel
theorem dX7_take_140 : decode cX7_take 140 = .ok (.iaload, 1) := by decide +kernel
theorem dX7_take_141 : decode cX7_take 141 = .ok (.iastore, 1) := by decide +kernel
theorem dX7_take_142 : decode cX7_take 142 = .ok (.iinc 1 1, 3) := by decide +kernel
theorem dX7_take_145 : decode cX7_take 145 = .ok (.goto (-23), 3) := by decide +kernel
theorem dX7_take_148 : decode cX7_take 148 = .ok (.aload_n 0, 1) := by decide +kernel
theorem dX7_take_149 : decode cX7_take 149 = .ok (.iconst 0, 1) := by decide +kernel
theorem dX7_take_150 : decode cX7_take 150 = .ok (.putfield 196, 3) := by decide +kernel
theorem dX7_take_153 : decode cX7_take 153 = .ok (.aload_n 0, 1) := by decide +kernel
theorem dX7_take_154 : decode cX7_take 154 = .ok (.iconst 0, 1) := by decide +kernel
theorem dX7_take_155 : decode cX7_take 155 = .ok (.putfield 199, 3) := by decide +kernel
theorem dX7_take_158 : decode cX7_take 158 = .ok (.iconst 1, 1) := by decide +kernel
theorem dX7_take_159 : decode cX7_take 159 = .ok (.istore_n 1, 1) := by decide +kernel
theorem dX7_take_160 : decode cX7_take 160 = .ok (.iload_n 1, 1) := by decide +kernel
theorem dX7_take_161 : decode cX7_take 161 = .ok (.aload_n 0, 1) := by decide +kernel
theorem dX7_take_162 : decode cX7_take 162 = .ok (.getfield 187, 3) := by decide +kernel
theorem dX7_take_165 : decode cX7_take 165 = .ok (.iconst 1, 1) := by decide +kernel
theorem dX7_take_166 : decode cX7_take 166 = .ok (.isub, 1) := by decide +kernel
theorem dX7_take_167 : decode cX7_take 167 = .ok (.if_icmp .ge 141, 3) := by decide +kernel
theorem dX7_take_170 : decode cX7_take 170 = .ok (.aload_n 0, 1) := by decide +kernel
theorem dX7_take_171 : decode cX7_take 171 = .ok (.getfield 51, 3) := by decide +kernel
theorem dX7_take_174 : decode cX7_take 174 = .ok (.iload_n 1, 1) := by decide +kernel
theorem dX7_take_175 : decode cX7_take 175 = .ok (.iaload, 1) := by decide +kernel
theorem dX7_take_176 : decode cX7_take 176 = .ok (.ldc 114, 2) := by decide +kernel
theorem dX7_take_178 : decode cX7_take 178 = .ok (.if_icmp .ne 26, 3) := by decide +kernel
theorem dX7_take_181 : decode cX7_take 181 = .ok (.aload_n 0, 1) := by decide +kernel
theorem dX7_take_182 : decode cX7_take 182 = .ok (.getfield 81, 3) := by decide +kernel
theorem dX7_take_185 : decode cX7_take 185 = .ok (.aload_n 0, 1) := by decide +kernel
theorem dX7_take_186 : decode cX7_take 186 = .ok (.getfield 199, 3) := by decide +kernel
theorem dX7_take_189 : decode cX7_take 189 = .ok (.iload_n 1, 1) := by decide +kernel
theorem dX7_take_190 : decode cX7_take 190 = .ok (.iastore, 1) := by decide +kernel
theorem dX7_take_191 : decode cX7_take 191 = .ok (.aload_n 0, 1) := by decide +kernel
theorem dX7_take_192 : decode cX7_take 192 = .ok (.dup, 1) := by decide +kernel
theorem dX7_take_193 : decode cX7_take 193 = .ok (.getfield 199, 3) := by decide +kernel
theorem dX7_take_196 : decode cX7_take 196 = .ok (.iconst 1, 1) := by decide +kernel
theorem dX7_take_197 : decode cX7_take 197 = .ok (.iadd, 1) := by decide +kernel
theorem dX7_take_198 : decode cX7_take 198 = .ok (.putfield 199, 3) := by decide +kernel
theorem dX7_take_201 : decode cX7_take 201 = .ok (.goto 101, 3) := by decide +kernel
theorem dX7_take_204 : decode cX7_take 204 = .ok (.aload_n 0, 1) := by decide +kernel
theorem dX7_take_205 : decode cX7_take 205 = .ok (.getfield 51, 3) := by decide +kernel
theorem dX7_take_208 : decode cX7_take 208 = .ok (.iload_n 1, 1) := by decide +kernel
theorem dX7_take_209 : decode cX7_take 209 = .ok (.iaload, 1) := by decide +kernel
theorem dX7_take_210 : decode cX7_take 210 = .ok (.ldc 115, 2) := by decide +kernel
theorem dX7_take_212 : decode cX7_take 212 = .ok (.if_icmp .ne 18, 3) := by decide +kernel
theorem dX7_take_215 : decode cX7_take 215 = .ok (.aload_n 0, 1) := by decide +kernel
theorem dX7_take_216 : decode cX7_take 216 = .ok (.getfield 84, 3) := by decide +kernel
theorem dX7_take_219 : decode cX7_take 219 = .ok (.aload_n 0, 1) := by decide +kernel
theorem dX7_take_220 : decode cX7_take 220 = .ok (.getfield 199, 3) := by decide +kernel
theorem dX7_take_223 : decode cX7_take 223 = .ok (.iconst 1, 1) := by decide +kernel
theorem dX7_take_224 : decode cX7_take 224 = .ok (.isub, 1) := by decide +kernel
theorem dX7_take_225 : decode cX7_take 225 = .ok (.iload_n 1, 1) := by decide +kernel
theorem dX7_take_226 : decode cX7_take 226 = .ok (.iastore, 1) := by decide +kernel
theorem dX7_take_227 : decode cX7_take 227 = .ok (.goto 75, 3) := by decide +kernel
theorem dX7_take_230 : decode cX7_take 230 = .ok (.aload_n 0, 1) := by decide +kernel
theorem dX7_take_231 : decode cX7_take 231 = .ok (.getfield 51, 3) := by decide +kernel
theorem dX7_take_234 : decode cX7_take 234 = .ok (.iload_n 1, 1) := by decide +kernel
theorem dX7_take_235 : decode cX7_take 235 = .ok (.iaload, 1) := by decide +kernel
theorem dX7_take_236 : decode cX7_take 236 = .ok (.ldc 116, 2) := by decide +kernel
theorem dX7_take_238 : decode cX7_take 238 = .ok (.if_icmp .ne 41, 3) := by decide +kernel
theorem dX7_take_241 : decode cX7_take 241 = .ok (.aload_n 0, 1) := by decide +kernel
theorem dX7_take_242 : decode cX7_take 242 = .ok (.getfield 66, 3) := by decide +kernel
theorem dX7_take_245 : decode cX7_take 245 = .ok (.aload_n 0, 1) := by decide +kernel
theorem dX7_take_246 : decode cX7_take 246 = .ok (.getfield 196, 3) := by decide +kernel
theorem dX7_take_249 : decode cX7_take 249 = .ok (.iload_n 1, 1) := by decide +kernel
theorem dX7_take_250 : decode cX7_take 250 = .ok (.iastore, 1) := by decide +kernel
theorem dX7_take_251 : decode cX7_take 251 = .ok (.aload_n 0, 1) := by decide +kernel
theorem dX7_take_252 : decode cX7_take 252 = .ok (.getfield 72, 3) := by decide +kernel
theorem dX7_take_255 : decode cX7_take 255 = .ok (.aload_n 0, 1) := by decide +kernel
theorem dX7_take_256 : decode cX7_take 256 = .ok (.getfield 196, 3) := by decide +kernel
theorem dX7_take_259 : decode cX7_take 259 = .ok (.aload_n 0, 1) := by decide +kernel
theorem dX7_take_260 : decode cX7_take 260 = .ok (.getfield 199, 3) := by decide +kernel
theorem dX7_take_263 : decode cX7_take 263 = .ok (.iconst 1, 1) := by decide +kernel
theorem dX7_take_264 : decode cX7_take 264 = .ok (.isub, 1) := by decide +kernel
theorem dX7_take_265 : decode cX7_take 265 = .ok (.iastore, 1) := by decide +kernel
theorem dX7_take_266 : decode cX7_take 266 = .ok (.aload_n 0, 1) := by decide +kernel
theorem dX7_take_267 : decode cX7_take 267 = .ok (.dup, 1) := by decide +kernel
theorem dX7_take_268 : decode cX7_take 268 = .ok (.getfield 196, 3) := by decide +kernel
theorem dX7_take_271 : decode cX7_take 271 = .ok (.iconst 1, 1) := by decide +kernel
theorem dX7_take_272 : decode cX7_take 272 = .ok (.iadd, 1) := by decide +kernel
theorem dX7_take_273 : decode cX7_take 273 = .ok (.putfield 196, 3) := by decide +kernel
theorem dX7_take_276 : decode cX7_take 276 = .ok (.goto 26, 3) := by decide +kernel
theorem dX7_take_279 : decode cX7_take 279 = .ok (.aload_n 0, 1) := by decide +kernel
theorem dX7_take_280 : decode cX7_take 280 = .ok (.getfield 51, 3) := by decide +kernel
theorem dX7_take_283 : decode cX7_take 283 = .ok (.iload_n 1, 1) := by decide +kernel
theorem dX7_take_284 : decode cX7_take 284 = .ok (.iaload, 1) := by decide +kernel
theorem dX7_take_285 : decode cX7_take 285 = .ok (.ldc 117, 2) := by decide +kernel
theorem dX7_take_287 : decode cX7_take 287 = .ok (.if_icmp .ne 15, 3) := by decide +kernel
theorem dX7_take_290 : decode cX7_take 290 = .ok (.aload_n 0, 1) := by decide +kernel
theorem dX7_take_291 : decode cX7_take 291 = .ok (.getfield 69, 3) := by decide +kernel
theorem dX7_take_294 : decode cX7_take 294 = .ok (.aload_n 0, 1) := by decide +kernel
theorem dX7_take_295 : decode cX7_take 295 = .ok (.getfield 196, 3) := by decide +kernel
theorem dX7_take_298 : decode cX7_take 298 = .ok (.iconst 1, 1) := by decide +kernel
theorem dX7_take_299 : decode cX7_take 299 = .ok (.isub, 1) := by decide +kernel
theorem dX7_take_300 : decode cX7_take 300 = .ok (.iload_n 1, 1) := by decide +kernel
theorem dX7_take_301 : decode cX7_take 301 = .ok (.iastore, 1) := by decide +kernel
theorem dX7_take_302 : decode cX7_take 302 = .ok (.iinc 1 1, 3) := by decide +kernel
theorem dX7_take_305 : decode cX7_take 305 = .ok (.goto (-145), 3) := by decide +kernel
theorem dX7_take_308 : decode cX7_take 308 = .ok (.return_, 1) := by decide +kernel
theorem dX7_component_0 : decode cX7_component 0 = .ok (.aload_n 0, 1) := by decide +kernel
theorem dX7_component_1 : decode cX7_component 1 = .ok (.getfield 54, 3) := by decide +kernel
theorem dX7_component_4 : decode cX7_component 4 = .ok (.iload_n 1, 1) := by decide +kernel
theorem dX7_component_5 : decode cX7_component 5 = .ok (.iaload, 1) := by decide +kernel
theorem dX7_component_6 : decode cX7_component 6 = .ok (.iload_n 2, 1) := by decide +kernel
theorem dX7_component_7 : decode cX7_component 7 = .ok (.iadd, 1) := by decide +kernel
theorem dX7_component_8 : decode cX7_component 8 = .ok (.istore_n 3, 1) := by decide +kernel
theorem dX7_component_9 : decode cX7_component 9 = .ok (.iload_n 3, 1) := by decide +kernel
theorem dX7_component_10 : decode cX7_component 10 = .ok (.aload_n 0, 1) := by decide +kernel
theorem dX7_component_11 : decode cX7_component 11 = .ok (.getfield 54, 3) := by decide +kernel
theorem dX7_component_14 : decode cX7_component 14 = .ok (.iload_n 1, 1) := by decide +kernel
theorem dX7_component_15 : decode cX7_component 15 = .ok (.iconst 1, 1) := by decide +kernel
theorem dX7_component_16 : decode cX7_component 16 = .ok (.iadd, 1) := by decide +kernel
theorem dX7_component_17 : decode cX7_component 17 = .ok (.iaload, 1) := by decide +kernel
theorem dX7_component_18 : decode cX7_component 18 = .ok (.if_icmp .ge 12, 3) := by decide +kernel
theorem dX7_component_21 : decode cX7_component 21 = .ok (.aload_n 0, 1) := by decide +kernel
theorem dX7_component_22 : decode cX7_component 22 = .ok (.getfield 57, 3) := by decide +kernel
theorem dX7_component_25 : decode cX7_component 25 = .ok (.iload_n 3, 1) := by decide +kernel
theorem dX7_component_26 : decode cX7_component 26 = .ok (.iaload, 1) := by decide +kernel
theorem dX7_component_27 : decode cX7_component 27 = .ok (.goto 4, 3) := by decide +kernel
theorem dX7_component_30 : decode cX7_component 30 = .ok (.iconst (-1), 1) := by decide +kernel
theorem dX7_component_31 : decode cX7_component 31 = .ok (.ireturn, 1) := by decide +kernel
theorem dX7_sizeOf_0 : decode cX7_sizeOf 0 = .ok (.iload_n 1, 1) := by decide +kernel
theorem dX7_sizeOf_1 : decode cX7_sizeOf 1 = .ok (.ifCond .ge 7, 3) := by decide +kernel
theorem dX7_sizeOf_4 : decode cX7_sizeOf 4 = .ok (.iconst 0, 1) := by decide +kernel
theorem dX7_sizeOf_5 : decode cX7_sizeOf 5 = .ok (.goto 18, 3) := by decide +kernel
theorem dX7_sizeOf_8 : decode cX7_sizeOf 8 = .ok (.aload_n 0, 1) := by decide +kernel
theorem dX7_sizeOf_9 : decode cX7_sizeOf 9 = .ok (.getfield 60, 3) := by decide +kernel
theorem dX7_sizeOf_12 : decode cX7_sizeOf 12 = .ok (.iload_n 1, 1) := by decide +kernel
theorem dX7_sizeOf_13 : decode cX7_sizeOf 13 = .ok (.iconst 1, 1) := by decide +kernel
theorem dX7_sizeOf_14 : decode cX7_sizeOf 14 = .ok (.iadd, 1) := by decide +kernel
theorem dX7_sizeOf_15 : decode cX7_sizeOf 15 = .ok (.iaload, 1) := by decide +kernel
theorem dX7_sizeOf_16 : decode cX7_sizeOf 16 = .ok (.aload_n 0, 1) := by decide +kernel
theorem dX7_sizeOf_17 : decode cX7_sizeOf 17 = .ok (.getfield 60, 3) := by decide +kernel
theorem dX7_sizeOf_20 : decode cX7_sizeOf 20 = .ok (.iload_n 1, 1) := by decide +kernel
theorem dX7_sizeOf_21 : decode cX7_sizeOf 21 = .ok (.iaload, 1) := by decide +kernel
theorem dX7_sizeOf_22 : decode cX7_sizeOf 22 = .ok (.isub, 1) := by decide +kernel
theorem dX7_sizeOf_23 : decode cX7_sizeOf 23 = .ok (.ireturn, 1) := by decide +kernel
theorem dX7_same_0 : decode cX7_same 0 = .ok (.aload_n 0, 1) := by decide +kernel
theorem dX7_same_1 : decode cX7_same 1 = .ok (.iload_n 1, 1) := by decide +kernel
theorem dX7_same_2 : decode cX7_same 2 = .ok (.invokevirtual 202, 3) := by decide +kernel
theorem dX7_same_5 : decode cX7_same 5 = .ok (.istore_n 3, 1) := by decide +kernel
theorem dX7_same_6 : decode cX7_same 6 = .ok (.iload_n 3, 1) := by decide +kernel
theorem dX7_same_7 : decode cX7_same 7 = .ok (.aload_n 0, 1) := by decide +kernel
theorem dX7_same_8 : decode cX7_same 8 = .ok (.iload_n 2, 1) := by decide +kernel
theorem dX7_same_9 : decode cX7_same 9 = .ok (.invokevirtual 202, 3) := by decide +kernel
theorem dX7_same_12 : decode cX7_same 12 = .ok (.if_icmp .ne 7, 3) := by decide +kernel
theorem dX7_same_15 : decode cX7_same 15 = .ok (.iconst 1, 1) := by decide +kernel
theorem dX7_same_16 : decode cX7_same 16 = .ok (.goto 4, 3) := by decide +kernel
theorem dX7_same_19 : decode cX7_same 19 = .ok (.iconst 0, 1) := by decide +kernel
theorem dX7_same_20 : decode cX7_same 20 = .ok (.istore 4, 2) := by decide +kernel
theorem dX7_same_22 : decode cX7_same 22 = .ok (.iconst 0, 1) := by decide +kernel
theorem dX7_same_23 : decode cX7_same 23 = .ok (.istore 5, 2) := by decide +kernel
theorem dX7_same_25 : decode cX7_same 25 = .ok (.iload 5, 2) := by decide +kernel
theorem dX7_same_27 : decode cX7_same 27 = .ok (.iload_n 3, 1) := by decide +kernel
theorem dX7_same_28 : decode cX7_same 28 = .ok (.if_icmp .ge 52, 3) := by decide +kernel
theorem dX7_same_31 : decode cX7_same 31 = .ok (.iload 4, 2) := by decide +kernel
theorem dX7_same_33 : decode cX7_same 33 = .ok (.ifCond .eq 47, 3) := by decide +kernel
theorem dX7_same_36 : decode cX7_same 36 = .ok (.aload_n 0, 1) := by decide +kernel
theorem dX7_same_37 : decode cX7_same 37 = .ok (.getfield 63, 3) := by decide +kernel
theorem dX7_same_40 : decode cX7_same 40 = .ok (.aload_n 0, 1) := by decide +kernel
theorem dX7_same_41 : decode cX7_same 41 = .ok (.getfield 60, 3) := by decide +kernel
theorem dX7_same_44 : decode cX7_same 44 = .ok (.iload_n 1, 1) := by decide +kernel
theorem dX7_same_45 : decode cX7_same 45 = .ok (.iaload, 1) := by decide +kernel
theorem dX7_same_46 : decode cX7_same 46 = .ok (.iload 5, 2) := by decide +kernel
theorem dX7_same_48 : decode cX7_same 48 = .ok (.iadd, 1) := by decide +kernel
theorem dX7_same_49 : decode cX7_same 49 = .ok (.iaload, 1) := by decide +kernel
theorem dX7_same_50 : decode cX7_same 50 = .ok (.aload_n 0, 1) := by decide +kernel
theorem dX7_same_51 : decode cX7_same 51 = .ok (.getfield 63, 3) := by decide +kernel
theorem dX7_same_54 : decode cX7_same 54 = .ok (.aload_n 0, 1) := by decide +kernel
theorem dX7_same_55 : decode cX7_same 55 = .ok (.getfield 60, 3) := by decide +kernel
theorem dX7_same_58 : decode cX7_same 58 = .ok (.iload_n 2, 1) := by decide +kernel
theorem dX7_same_59 : decode cX7_same 59 = .ok (.iaload, 1) := by decide +kernel
theorem dX7_same_60 : decode cX7_same 60 = .ok (.iload 5, 2) := by decide +kernel
theorem dX7_same_62 : decode cX7_same 62 = .ok (.iadd, 1) := by decide +kernel
theorem dX7_same_63 : decode cX7_same 63 = .ok (.iaload, 1) := by decide +kernel
theorem dX7_same_64 : decode cX7_same 64 = .ok (.if_icmp .ne 7, 3) := by decide +kernel
theorem dX7_same_67 : decode cX7_same 67 = .ok (.iconst 1, 1) := by decide +kernel
theorem dX7_same_68 : decode cX7_same 68 = .ok (.goto 4, 3) := by decide +kernel
theorem dX7_same_71 : decode cX7_same 71 = .ok (.iconst 0, 1) := by decide +kernel
theorem dX7_same_72 : decode cX7_same 72 = .ok (.istore 4, 2) := by decide +kernel
theorem dX7_same_74 : decode cX7_same 74 = .ok (.iinc 5 1, 3) := by decide +kernel
theorem dX7_same_77 : decode cX7_same 77 = .ok (.goto (-52), 3) := by decide +kernel
theorem dX7_same_80 : decode cX7_same 80 = .ok (.iload 4, 2) := by decide +kernel
theorem dX7_same_82 : decode cX7_same 82 = .ok (.ireturn, 1) := by decide +kernel
theorem dX7_isNumber_0 : decode cX7_isNumber 0 = .ok (.aload_n 0, 1) := by decide +kernel
theorem dX7_isNumber_1 : decode cX7_isNumber 1 = .ok (.iload_n 1, 1) := by decide +kernel
theorem dX7_isNumber_2 : decode cX7_isNumber 2 = .ok (.invokevirtual 202, 3) := by decide +kernel
theorem dX7_isNumber_5 : decode cX7_isNumber 5 = .ok (.istore_n 3, 1) := by decide +kernel
theorem dX7_isNumber_6 : decode cX7_isNumber 6 = .ok (.iload_n 3, 1) := by decide +kernel
theorem dX7_isNumber_7 : decode cX7_isNumber 7 = .ok (.iconst 1, 1) := by decide +kernel
theorem dX7_isNumber_8 : decode cX7_isNumber 8 = .ok (.if_icmp .lt 8, 3) := by decide +kernel
theorem dX7_isNumber_11 : decode cX7_isNumber 11 = .ok (.iload_n 3, 1) := by decide +kernel
theorem dX7_isNumber_12 : decode cX7_isNumber 12 = .ok (.iconst 3, 1) := by decide +kernel
theorem dX7_isNumber_13 : decode cX7_isNumber 13 = .ok (.if_icmp .le 5, 3) := by decide +kernel
theorem dX7_isNumber_16 : decode cX7_isNumber 16 = .ok (.iconst 0, 1) := by decide +kernel
theorem dX7_isNumber_17 : decode cX7_isNumber 17 = .ok (.ireturn, 1) := by decide +kernel
theorem dX7_isNumber_18 : decode cX7_isNumber 18 = .ok (.aload_n 0, 1) := by decide +kernel
theorem dX7_isNumber_19 : decode cX7_isNumber 19 = .ok (.getfield 60, 3) := by decide +kernel
theorem dX7_isNumber_22 : decode cX7_isNumber 22 = .ok (.iload_n 1, 1) := by decide +kernel
theorem dX7_isNumber_23 : decode cX7_isNumber 23 = .ok (.iaload, 1) := by decide +kernel
theorem dX7_isNumber_24 : decode cX7_isNumber 24 = .ok (.istore 4, 2) := by decide +kernel
theorem dX7_isNumber_26 : decode cX7_isNumber 26 = .ok (.iconst 0, 1) := by decide +kernel
theorem dX7_isNumber_27 : decode cX7_isNumber 27 = .ok (.istore 5, 2) := by decide +kernel
theorem dX7_isNumber_29 : decode cX7_isNumber 29 = .ok (.iload_n 3, 1) := by decide +kernel
theorem dX7_isNumber_30 : decode cX7_isNumber 30 = .ok (.iconst 1, 1) := by decide +kernel
theorem dX7_isNumber_31 : decode cX7_isNumber 31 = .ok (.if_icmp .eq 15, 3) := by decide +kernel
theorem dX7_isNumber_34 : decode cX7_isNumber 34 = .ok (.aload_n 0, 1) := by decide +kernel
theorem dX7_isNumber_35 : decode cX7_isNumber 35 = .ok (.getfield 63, 3) := by decide +kernel
theorem dX7_isNumber_38 : decode cX7_isNumber 38 = .ok (.iload 4, 2) := by decide +kernel
theorem dX7_isNumber_40 : decode cX7_isNumber 40 = .ok (.iaload, 1) := by decide +kernel
theorem dX7_isNumber_41 : decode cX7_isNumber 41 = .ok (.bipush 48, 2) := by decide +kernel
theorem dX7_isNumber_43 : decode cX7_isNumber 43 = .ok (.if_icmp .eq 7, 3) := by decide +kernel
theorem dX7_isNumber_46 : decode cX7_isNumber 46 = .ok (.iconst 1, 1) := by decide +kernel
theorem dX7_isNumber_47 : decode cX7_isNumber 47 = .ok (.goto 4, 3) := by decide +kernel
theorem dX7_isNumber_50 : decode cX7_isNumber 50 = .ok (.iconst 0, 1) := by decide +kernel
theorem dX7_isNumber_51 : decode cX7_isNumber 51 = .ok (.istore 6, 2) := by decide +kernel
theorem dX7_isNumber_53 : decode cX7_isNumber 53 = .ok (.iconst 0, 1) := by decide +kernel
theorem dX7_isNumber_54 : decode cX7_isNumber 54 = .ok (.istore 7, 2) := by decide +kernel
theorem dX7_isNumber_56 : decode cX7_isNumber 56 = .ok (.iload 7, 2) := by decide +kernel
theorem dX7_isNumber_58 : decode cX7_isNumber 58 = .ok (.iload_n 3, 1) := by decide +kernel
theorem dX7_isNumber_59 : decode cX7_isNumber 59 = .ok (.if_icmp .ge 60, 3) := by decide +kernel
theorem dX7_isNumber_62 : decode cX7_isNumber 62 = .ok (.aload_n 0, 1) := by decide +kernel
theorem dX7_isNumber_63 : decode cX7_isNumber 63 = .ok (.getfield 63, 3) := by decide +kernel
theorem dX7_isNumber_66 : decode cX7_isNumber 66 = .ok (.iload 4, 2) := by decide +kernel
theorem dX7_isNumber_68 : decode cX7_isNumber 68 = .ok (.iload 7, 2) := by decide +kernel
theorem dX7_isNumber_70 : decode cX7_isNumber 70 = .ok (.iadd, 1) := by decide +kernel
theorem dX7_isNumber_71 : decode cX7_isNumber 71 = .ok (.iaload, 1) := by decide +kernel
theorem dX7_isNumber_72 : decode cX7_isNumber 72 = .ok (.istore 8, 2) := by decide +kernel
theorem dX7_isNumber_74 : decode cX7_isNumber 74 = .ok (.iload 6, 2) := by decide +kernel
theorem dX7_isNumber_76 : decode cX7_isNumber 76 = .ok (.ifCond .eq 21, 3) := by decide +kernel
theorem dX7_isNumber_79 : decode cX7_isNumber 79 = .ok (.iload 8, 2) := by decide +kernel
theorem dX7_isNumber_81 : decode cX7_isNumber 81 = .ok (.bipush 48, 2) := by decide +kernel
theorem dX7_isNumber_83 : decode cX7_isNumber 83 = .ok (.if_icmp .lt 14, 3) := by decide +kernel
theorem dX7_isNumber_86 : decode cX7_isNumber 86 = .ok (.iload 8, 2) := by decide +kernel
theorem dX7_isNumber_88 : decode cX7_isNumber 88 = .ok (.bipush 57, 2) := by decide +kernel
theorem dX7_isNumber_90 : decode cX7_isNumber 90 = .ok (.if_icmp .gt 7, 3) := by decide +kernel
theorem dX7_isNumber_93 : decode cX7_isNumber 93 = .ok (.iconst 1, 1) := by decide +kernel
theorem dX7_isNumber_94 : decode cX7_isNumber 94 = .ok (.goto 4, 3) := by decide +kernel
theorem dX7_isNumber_97 : decode cX7_isNumber 97 = .ok (.iconst 0, 1) := by decide +kernel
theorem dX7_isNumber_98 : decode cX7_isNumber 98 = .ok (.istore 6, 2) := by decide +kernel
theorem dX7_isNumber_100 : decode cX7_isNumber 100 = .ok (.bipush 10, 2) := by decide +kernel
theorem dX7_isNumber_102 : decode cX7_isNumber 102 = .ok (.iload 5, 2) := by decide +kernel
theorem dX7_isNumber_104 : decode cX7_isNumber 104 = .ok (.imul, 1) := by decide +kernel
theorem dX7_isNumber_105 : decode cX7_isNumber 105 = .ok (.iload 8, 2) := by decide +kernel
theorem dX7_isNumber_107 : decode cX7_isNumber 107 = .ok (.iadd, 1) := by decide +kernel
theorem dX7_isNumber_108 : decode cX7_isNumber 108 = .ok (.bipush 48, 2) := by decide +kernel
theorem dX7_isNumber_110 : decode cX7_isNumber 110 = .ok (.isub, 1) := by decide +kernel
theorem dX7_isNumber_111 : decode cX7_isNumber 111 = .ok (.istore 5, 2) := by decide +kernel
theorem dX7_isNumber_113 : decode cX7_isNumber 113 = .ok (.iinc 7 1, 3) := by decide +kernel
theorem dX7_isNumber_116 : decode cX7_isNumber 116 = .ok (.goto (-60), 3) := by decide +kernel
theorem dX7_isNumber_119 : decode cX7_isNumber 119 = .ok (.iload 6, 2) := by decide +kernel
theorem dX7_isNumber_121 : decode cX7_isNumber 121 = .ok (.ifCond .eq 13, 3) := by decide +kernel
theorem dX7_isNumber_124 : decode cX7_isNumber 124 = .ok (.iload 5, 2) := by decide +kernel
theorem dX7_isNumber_126 : decode cX7_isNumber 126 = .ok (.iload_n 2, 1) := by decide +kernel
theorem dX7_isNumber_127 : decode cX7_isNumber 127 = .ok (.if_icmp .ne 7, 3) := by decide +kernel
theorem dX7_isNumber_130 : decode cX7_isNumber 130 = .ok (.iconst 1, 1) := by decide +kernel
theorem dX7_isNumber_131 : decode cX7_isNumber 131 = .ok (.goto 4, 3) := by decide +kernel
theorem dX7_isNumber_134 : decode cX7_isNumber 134 = .ok (.iconst 0, 1) := by decide +kernel
theorem dX7_isNumber_135 : decode cX7_isNumber 135 = .ok (.ireturn, 1) := by decide +kernel
theorem dX7_check_0 : decode cX7_check 0 = .ok (.aload_n 0, 1) := by decide +kernel
theorem dX7_check_1 : decode cX7_check 1 = .ok (.iload_n 3, 1) := by decide +kernel
theorem dX7_check_2 : decode cX7_check 2 = .ok (.iconst 1, 1) := by decide +kernel
theorem dX7_check_3 : decode cX7_check 3 = .ok (.invokevirtual 205, 3) := by decide +kernel
theorem dX7_check_6 : decode cX7_check 6 = .ok (.istore 5, 2) := by decide +kernel
theorem dX7_check_8 : decode cX7_check 8 = .ok (.aload_n 0, 1) := by decide +kernel
theorem dX7_check_9 : decode cX7_check 9 = .ok (.iload 5, 2) := by decide +kernel
theorem dX7_check_11 : decode cX7_check 11 = .ok (.invokevirtual 202, 3) := by decide +kernel
theorem dX7_check_14 : decode cX7_check 14 = .ok (.ifCond .le 22, 3) := by decide +kernel
theorem dX7_check_17 : decode cX7_check 17 = .ok (.aload_n 0, 1) := by decide +kernel
theorem dX7_check_18 : decode cX7_check 18 = .ok (.iload 5, 2) := by decide +kernel
theorem dX7_check_20 : decode cX7_check 20 = .ok (.aload_n 0, 1) := by decide +kernel
theorem dX7_check_21 : decode cX7_check 21 = .ok (.iload_n 1, 1) := by decide +kernel
theorem dX7_check_22 : decode cX7_check 22 = .ok (.iload_n 2, 1) := by decide +kernel
theorem dX7_check_23 : decode cX7_check 23 = .ok (.invokevirtual 205, 3) := by decide +kernel
theorem dX7_check_26 : decode cX7_check 26 = .ok (.invokevirtual 208, 3) := by decide +kernel
theorem dX7_check_29 : decode cX7_check 29 = .ok (.ifCond .eq 7, 3) := by decide +kernel
theorem dX7_check_32 : decode cX7_check 32 = .ok (.iconst 1, 1) := by decide +kernel
theorem dX7_check_33 : decode cX7_check 33 = .ok (.goto 4, 3) := by decide +kernel
theorem dX7_check_36 : decode cX7_check 36 = .ok (.iconst 0, 1) := by decide +kernel
theorem dX7_check_37 : decode cX7_check 37 = .ok (.istore 6, 2) := by decide +kernel
theorem dX7_check_39 : decode cX7_check 39 = .ok (.iload 6, 2) := by decide +kernel
theorem dX7_check_41 : decode cX7_check 41 = .ok (.ifCond .eq 7, 3) := by decide +kernel
theorem dX7_check_44 : decode cX7_check 44 = .ok (.iconst 0, 1) := by decide +kernel
theorem dX7_check_45 : decode cX7_check 45 = .ok (.goto 4, 3) := by decide +kernel
theorem dX7_check_48 : decode cX7_check 48 = .ok (.iconst 1, 1) := by decide +kernel
theorem dX7_check_49 : decode cX7_check 49 = .ok (.aload_n 0, 1) := by decide +kernel
theorem dX7_check_50 : decode cX7_check 50 = .ok (.aload_n 0, 1) := by decide +kernel
theorem dX7_check_51 : decode cX7_check 51 = .ok (.iload_n 3, 1) := by decide +kernel
theorem dX7_check_52 : decode cX7_check 52 = .ok (.iconst 0, 1) := by decide +kernel
theorem dX7_check_53 : decode cX7_check 53 = .ok (.invokevirtual 205, 3) := by decide +kernel
theorem dX7_check_56 : decode cX7_check 56 = .ok (.iload 4, 2) := by decide +kernel
theorem dX7_check_58 : decode cX7_check 58 = .ok (.invokevirtual 212, 3) := by decide +kernel
theorem dX7_check_61 : decode cX7_check 61 = .ok (.ifCond .eq 7, 3) := by decide +kernel
theorem dX7_check_64 : decode cX7_check 64 = .ok (.iconst 0, 1) := by decide +kernel
theorem dX7_check_65 : decode cX7_check 65 = .ok (.goto 4, 3) := by decide +kernel
theorem dX7_check_68 : decode cX7_check 68 = .ok (.iconst 2, 1) := by decide +kernel
theorem dX7_check_69 : decode cX7_check 69 = .ok (.iadd, 1) := by decide +kernel
theorem dX7_check_70 : decode cX7_check 70 = .ok (.ireturn, 1) := by decide +kernel
theorem dX7_begins_0 : decode cX7_begins 0 = .ok (.bipush 24, 2) := by decide +kernel
theorem dX7_begins_2 : decode cX7_begins 2 = .ok (.iload_n 1, 1) := by decide +kernel
theorem dX7_begins_3 : decode cX7_begins 3 = .ok (.imul, 1) := by decide +kernel
theorem dX7_begins_4 : decode cX7_begins 4 = .ok (.iload_n 2, 1) := by decide +kernel
theorem dX7_begins_5 : decode cX7_begins 5 = .ok (.iadd, 1) := by decide +kernel
theorem dX7_begins_6 : decode cX7_begins 6 = .ok (.istore_n 3, 1) := by decide +kernel
theorem dX7_begins_7 : decode cX7_begins 7 = .ok (.aload_n 0, 1) := by decide +kernel
theorem dX7_begins_8 : decode cX7_begins 8 = .ok (.getfield 16, 3) := by decide +kernel
theorem dX7_begins_11 : decode cX7_begins 11 = .ok (.iload_n 3, 1) := by decide +kernel
theorem dX7_begins_12 : decode cX7_begins 12 = .ok (.iaload, 1) := by decide +kernel
theorem dX7_begins_13 : decode cX7_begins 13 = .ok (.ifCond .le 10, 3) := by decide +kernel
theorem dX7_begins_16 : decode cX7_begins 16 = .ok (.aload_n 0, 1) := by decide +kernel
theorem dX7_begins_17 : decode cX7_begins 17 = .ok (.getfield 16, 3) := by decide +kernel
theorem dX7_begins_20 : decode cX7_begins 20 = .ok (.iload_n 3, 1) := by decide +kernel
theorem dX7_begins_21 : decode cX7_begins 21 = .ok (.iaload, 1) := by decide +kernel
theorem dX7_begins_22 : decode cX7_begins 22 = .ok (.ireturn, 1) := by decide +kernel
theorem dX7_begins_23 : decode cX7_begins 23 = .ok (.aload_n 0, 1) := by decide +kernel
theorem dX7_begins_24 : decode cX7_begins 24 = .ok (.iload_n 1, 1) := by decide +kernel
theorem dX7_begins_25 : decode cX7_begins 25 = .ok (.iconst (-1), 1) := by decide +kernel
theorem dX7_begins_26 : decode cX7_begins 26 = .ok (.iload_n 2, 1) := by decide +kernel
theorem dX7_begins_27 : decode cX7_begins 27 = .ok (.invokevirtual 118, 3) := by decide +kernel
theorem dX7_begins_30 : decode cX7_begins 30 = .ok (.istore 4, 2) := by decide +kernel
theorem dX7_begins_32 : decode cX7_begins 32 = .ok (.iload 4, 2) := by decide +kernel
theorem dX7_begins_34 : decode cX7_begins 34 = .ok (.ifCond .ge 7, 3) := by decide +kernel
theorem dX7_begins_37 : decode cX7_begins 37 = .ok (.iconst 0, 1) := by decide +kernel
theorem dX7_begins_38 : decode cX7_begins 38 = .ok (.goto 15, 3) := by decide +kernel
theorem dX7_begins_41 : decode cX7_begins 41 = .ok (.aload_n 0, 1) := by decide +kernel
theorem dX7_begins_42 : decode cX7_begins 42 = .ok (.getfield 16, 3) := by decide +kernel
theorem dX7_begins_45 : decode cX7_begins 45 = .ok (.bipush 24, 2) := by decide +kernel
theorem dX7_begins_47 : decode cX7_begins 47 = .ok (.iload_n 1, 1) := by decide +kernel
theorem dX7_begins_48 : decode cX7_begins 48 = .ok (.imul, 1) := by decide +kernel
theorem dX7_begins_49 : decode cX7_begins 49 = .ok (.iload 4, 2) := by decide +kernel
theorem dX7_begins_51 : decode cX7_begins 51 = .ok (.iadd, 1) := by decide +kernel
theorem dX7_begins_52 : decode cX7_begins 52 = .ok (.iaload, 1) := by decide +kernel
theorem dX7_begins_53 : decode cX7_begins 53 = .ok (.ireturn, 1) := by decide +kernel
theorem dX7_goOn_0 : decode cX7_goOn 0 = .ok (.aload_n 0, 1) := by decide +kernel
theorem dX7_goOn_1 : decode cX7_goOn 1 = .ok (.getfield 215, 3) := by decide +kernel
theorem dX7_goOn_4 : decode cX7_goOn 4 = .ok (.ifCond .ne 7, 3) := by decide +kernel
theorem dX7_goOn_7 : decode cX7_goOn 7 = .ok (.iconst (-1), 1) := by decide +kernel
theorem dX7_goOn_8 : decode cX7_goOn 8 = .ok (.goto 14, 3) := by decide +kernel
theorem dX7_goOn_11 : decode cX7_goOn 11 = .ok (.aload_n 0, 1) := by decide +kernel
theorem dX7_goOn_12 : decode cX7_goOn 12 = .ok (.getfield 90, 3) := by decide +kernel
theorem dX7_goOn_15 : decode cX7_goOn 15 = .ok (.aload_n 0, 1) := by decide +kernel
theorem dX7_goOn_16 : decode cX7_goOn 16 = .ok (.getfield 215, 3) := by decide +kernel
theorem dX7_goOn_19 : decode cX7_goOn 19 = .ok (.iconst 1, 1) := by decide +kernel
theorem dX7_goOn_20 : decode cX7_goOn 20 = .ok (.isub, 1) := by decide +kernel
theorem dX7_goOn_21 : decode cX7_goOn 21 = .ok (.iaload, 1) := by decide +kernel
theorem dX7_goOn_22 : decode cX7_goOn 22 = .ok (.istore_n 2, 1) := by decide +kernel
theorem dX7_goOn_23 : decode cX7_goOn 23 = .ok (.aload_n 0, 1) := by decide +kernel
theorem dX7_goOn_24 : decode cX7_goOn 24 = .ok (.aload_n 0, 1) := by decide +kernel
theorem dX7_goOn_25 : decode cX7_goOn 25 = .ok (.iload_n 1, 1) := by decide +kernel
theorem dX7_goOn_26 : decode cX7_goOn 26 = .ok (.aload_n 0, 1) := by decide +kernel
theorem dX7_goOn_27 : decode cX7_goOn 27 = .ok (.getfield 218, 3) := by decide +kernel
theorem dX7_goOn_30 : decode cX7_goOn 30 = .ok (.iload_n 2, 1) := by decide +kernel
theorem dX7_goOn_31 : decode cX7_goOn 31 = .ok (.invokevirtual 118, 3) := by decide +kernel
theorem dX7_goOn_34 : decode cX7_goOn 34 = .ok (.putfield 218, 3) := by decide +kernel
theorem dX7_goOn_37 : decode cX7_goOn 37 = .ok (.aload_n 0, 1) := by decide +kernel
theorem dX7_goOn_38 : decode cX7_goOn 38 = .ok (.iconst 0, 1) := by decide +kernel
theorem dX7_goOn_39 : decode cX7_goOn 39 = .ok (.putfield 221, 3) := by decide +kernel
theorem dX7_goOn_42 : decode cX7_goOn 42 = .ok (.return_, 1) := by decide +kernel
theorem dX7_comes_0 : decode cX7_comes 0 = .ok (.iconst 0, 1) := by decide +kernel
theorem dX7_comes_1 : decode cX7_comes 1 = .ok (.istore_n 3, 1) := by decide +kernel
theorem dX7_comes_2 : decode cX7_comes 2 = .ok (.iload_n 3, 1) := by decide +kernel
theorem dX7_comes_3 : decode cX7_comes 3 = .ok (.sipush 200, 3) := by decide +kernel
theorem dX7_comes_6 : decode cX7_comes 6 = .ok (.if_icmp .ge 215, 3) := by decide +kernel
theorem dX7_comes_9 : decode cX7_comes 9 = .ok (.aload_n 0, 1) := by decide +kernel
theorem dX7_comes_10 : decode cX7_comes 10 = .ok (.getfield 218, 3) := by decide +kernel
theorem dX7_comes_13 : decode cX7_comes 13 = .ok (.ifCond .ge 51, 3) := by decide +kernel
theorem dX7_comes_16 : decode cX7_comes 16 = .ok (.aload_n 0, 1) := by decide +kernel
theorem dX7_comes_17 : decode cX7_comes 17 = .ok (.getfield 215, 3) := by decide +kernel
theorem dX7_comes_20 : decode cX7_comes 20 = .ok (.ifCond .ne 5, 3) := by decide +kernel
theorem dX7_comes_23 : decode cX7_comes 23 = .ok (.iconst 4, 1) := by decide +kernel
theorem dX7_comes_24 : decode cX7_comes 24 = .ok (.ireturn, 1) := by decide +kernel
theorem dX7_comes_25 : decode cX7_comes 25 = .ok (.aload_n 0, 1) := by decide +kernel
theorem dX7_comes_26 : decode cX7_comes 26 = .ok (.dup, 1) := by decide +kernel
theorem dX7_comes_27 : decode cX7_comes 27 = .ok (.getfield 215, 3) := by decide +kernel
theorem dX7_comes_30 : decode cX7_comes 30 = .ok (.iconst 1, 1) := by decide +kernel
theorem dX7_comes_31 : decode cX7_comes 31 = .ok (.isub, 1) := by decide +kernel
theorem dX7_comes_32 : decode cX7_comes 32 = .ok (.putfield 215, 3) := by decide +kernel
theorem dX7_comes_35 : decode cX7_comes 35 = .ok (.aload_n 0, 1) := by decide +kernel
theorem dX7_comes_36 : decode cX7_comes 36 = .ok (.aload_n 0, 1) := by decide +kernel
theorem dX7_comes_37 : decode cX7_comes 37 = .ok (.getfield 90, 3) := by decide +kernel
theorem dX7_comes_40 : decode cX7_comes 40 = .ok (.aload_n 0, 1) := by decide +kernel
theorem dX7_comes_41 : decode cX7_comes 41 = .ok (.getfield 215, 3) := by decide +kernel
theorem dX7_comes_44 : decode cX7_comes 44 = .ok (.iaload, 1) := by decide +kernel
theorem dX7_comes_45 : decode cX7_comes 45 = .ok (.putfield 218, 3) := by decide +kernel
theorem dX7_comes_48 : decode cX7_comes 48 = .ok (.aload_n 0, 1) := by decide +kernel
theorem dX7_comes_49 : decode cX7_comes 49 = .ok (.aload_n 0, 1) := by decide +kernel
theorem dX7_comes_50 : decode cX7_comes 50 = .ok (.getfield 93, 3) := by decide +kernel
theorem dX7_comes_53 : decode cX7_comes 53 = .ok (.aload_n 0, 1) := by decide +kernel
theorem dX7_comes_54 : decode cX7_comes 54 = .ok (.getfield 215, 3) := by decide +kernel
theorem dX7_comes_57 : decode cX7_comes 57 = .ok (.iaload, 1) := by decide +kernel
theorem dX7_comes_58 : decode cX7_comes 58 = .ok (.putfield 221, 3) := by decide +kernel
theorem dX7_comes_61 : decode cX7_comes 61 = .ok (.goto 154, 3) := by decide +kernel
theorem dX7_comes_64 : decode cX7_comes 64 = .ok (.bipush 24, 2) := by decide +kernel
theorem dX7_comes_66 : decode cX7_comes 66 = .ok (.iload_n 1, 1) := by decide +kernel
theorem dX7_comes_67 : decode cX7_comes 67 = .ok (.imul, 1) := by decide +kernel
theorem dX7_comes_68 : decode cX7_comes 68 = .ok (.aload_n 0, 1) := by decide +kernel
theorem dX7_comes_69 : decode cX7_comes 69 = .ok (.getfield 218, 3) := by decide +kernel
theorem dX7_comes_72 : decode cX7_comes 72 = .ok (.iadd, 1) := by decide +kernel
theorem dX7_comes_73 : decode cX7_comes 73 = .ok (.istore 4, 2) := by decide +kernel
theorem dX7_comes_75 : decode cX7_comes 75 = .ok (.aload_n 0, 1) := by decide +kernel
theorem dX7_comes_76 : decode cX7_comes 76 = .ok (.iload_n 1, 1) := by decide +kernel
theorem dX7_comes_77 : decode cX7_comes 77 = .ok (.aload_n 0, 1) := by decide +kernel
theorem dX7_comes_78 : decode cX7_comes 78 = .ok (.getfield 218, 3) := by decide +kernel
theorem dX7_comes_81 : decode cX7_comes 81 = .ok (.invokevirtual 224, 3) := by decide +kernel
theorem dX7_comes_84 : decode cX7_comes 84 = .ok (.iload_n 2, 1) := by decide +kernel
theorem dX7_comes_85 : decode cX7_comes 85 = .ok (.if_icmp .ne 106, 3) := by decide +kernel
theorem dX7_comes_88 : decode cX7_comes 88 = .ok (.aload_n 0, 1) := by decide +kernel
theorem dX7_comes_89 : decode cX7_comes 89 = .ok (.getfield 221, 3) := by decide +kernel
theorem dX7_comes_92 : decode cX7_comes 92 = .ok (.aload_n 0, 1) := by decide +kernel
theorem dX7_comes_93 : decode cX7_comes 93 = .ok (.getfield 23, 3) := by decide +kernel
theorem dX7_comes_96 : decode cX7_comes 96 = .ok (.iload 4, 2) := by decide +kernel
theorem dX7_comes_98 : decode cX7_comes 98 = .ok (.iaload, 1) := by decide +kernel
theorem dX7_comes_99 : decode cX7_comes 99 = .ok (.if_icmp .ne 6, 3) := by decide +kernel
theorem dX7_comes_102 : decode cX7_comes 102 = .ok (.bipush 6, 2) := by decide +kernel
theorem dX7_comes_104 : decode cX7_comes 104 = .ok (.ireturn, 1) := by decide +kernel
theorem dX7_comes_105 : decode cX7_comes 105 = .ok (.aload_n 0, 1) := by decide +kernel
theorem dX7_comes_106 : decode cX7_comes 106 = .ok (.dup, 1) := by decide +kernel
theorem dX7_comes_107 : decode cX7_comes 107 = .ok (.getfield 221, 3) := by decide +kernel
theorem dX7_comes_110 : decode cX7_comes 110 = .ok (.iconst 1, 1) := by decide +kernel
theorem dX7_comes_111 : decode cX7_comes 111 = .ok (.iadd, 1) := by decide +kernel
theorem dX7_comes_112 : decode cX7_comes 112 = .ok (.putfield 221, 3) := by decide +kernel
theorem dX7_comes_115 : decode cX7_comes 115 = .ok (.aload_n 0, 1) := by decide +kernel
theorem dX7_comes_116 : decode cX7_comes 116 = .ok (.getfield 16, 3) := by decide +kernel
theorem dX7_comes_119 : decode cX7_comes 119 = .ok (.iload 4, 2) := by decide +kernel
theorem dX7_comes_121 : decode cX7_comes 121 = .ok (.iaload, 1) := by decide +kernel
theorem dX7_comes_122 : decode cX7_comes 122 = .ok (.ifCond .ne 67, 3) := by decide +kernel
theorem dX7_comes_125 : decode cX7_comes 125 = .ok (.aload_n 0, 1) := by decide +kernel
theorem dX7_comes_126 : decode cX7_comes 126 = .ok (.getfield 90, 3) := by decide +kernel
theorem dX7_comes_129 : decode cX7_comes 129 = .ok (.aload_n 0, 1) := by decide +kernel
theorem dX7_comes_130 : decode cX7_comes 130 = .ok (.getfield 215, 3) := by decide +kernel
theorem dX7_comes_133 : decode cX7_comes 133 = .ok (.aload_n 0, 1) := by decide +kernel
theorem dX7_comes_134 : decode cX7_comes 134 = .ok (.getfield 218, 3) := by decide +kernel
theorem dX7_comes_137 : decode cX7_comes 137 = .ok (.iastore, 1) := by decide +kernel
theorem dX7_comes_138 : decode cX7_comes 138 = .ok (.aload_n 0, 1) := by decide +kernel
theorem dX7_comes_139 : decode cX7_comes 139 = .ok (.getfield 93, 3) := by decide +kernel
theorem dX7_comes_142 : decode cX7_comes 142 = .ok (.aload_n 0, 1) := by decide +kernel
theorem dX7_comes_143 : decode cX7_comes 143 = .ok (.getfield 215, 3) := by decide +kernel
theorem dX7_comes_146 : decode cX7_comes 146 = .ok (.aload_n 0, 1) := by decide +kernel
theorem dX7_comes_147 : decode cX7_comes 147 = .ok (.getfield 221, 3) := by decide +kernel
theorem dX7_comes_150 : decode cX7_comes 150 = .ok (.iastore, 1) := by decide +kernel
theorem dX7_comes_151 : decode cX7_comes 151 = .ok (.aload_n 0, 1) := by decide +kernel
theorem dX7_comes_152 : decode cX7_comes 152 = .ok (.dup, 1) := by decide +kernel
theorem dX7_comes_153 : decode cX7_comes 153 = .ok (.getfield 215, 3) := by decide +kernel
theorem dX7_comes_156 : decode cX7_comes 156 = .ok (.iconst 1, 1) := by decide +kernel
theorem dX7_comes_157 : decode cX7_comes 157 = .ok (.iadd, 1) := by decide +kernel
theorem dX7_comes_158 : decode cX7_comes 158 = .ok (.putfield 215, 3) := by decide +kernel
theorem dX7_comes_161 : decode cX7_comes 161 = .ok (.aload_n 0, 1) := by decide +kernel
theorem dX7_comes_162 : decode cX7_comes 162 = .ok (.aload_n 0, 1) := by decide +kernel
theorem dX7_comes_163 : decode cX7_comes 163 = .ok (.iload_n 1, 1) := by decide +kernel
theorem dX7_comes_164 : decode cX7_comes 164 = .ok (.aload_n 0, 1) := by decide +kernel
theorem dX7_comes_165 : decode cX7_comes 165 = .ok (.iload_n 1, 1) := by decide +kernel
theorem dX7_comes_166 : decode cX7_comes 166 = .ok (.iconst (-1), 1) := by decide +kernel
theorem dX7_comes_167 : decode cX7_comes 167 = .ok (.aload_n 0, 1) := by decide +kernel
theorem dX7_comes_168 : decode cX7_comes 168 = .ok (.getfield 218, 3) := by decide +kernel
theorem dX7_comes_171 : decode cX7_comes 171 = .ok (.invokevirtual 118, 3) := by decide +kernel
theorem dX7_comes_174 : decode cX7_comes 174 = .ok (.aload_n 0, 1) := by decide +kernel
theorem dX7_comes_175 : decode cX7_comes 175 = .ok (.getfield 218, 3) := by decide +kernel
theorem dX7_comes_178 : decode cX7_comes 178 = .ok (.invokevirtual 118, 3) := by decide +kernel
theorem dX7_comes_181 : decode cX7_comes 181 = .ok (.putfield 218, 3) := by decide +kernel
theorem dX7_comes_184 : decode cX7_comes 184 = .ok (.aload_n 0, 1) := by decide +kernel
theorem dX7_comes_185 : decode cX7_comes 185 = .ok (.iconst 0, 1) := by decide +kernel
theorem dX7_comes_186 : decode cX7_comes 186 = .ok (.putfield 221, 3) := by decide +kernel
theorem dX7_comes_189 : decode cX7_comes 189 = .ok (.iconst 0, 1) := by decide +kernel
theorem dX7_comes_190 : decode cX7_comes 190 = .ok (.ireturn, 1) := by decide +kernel
theorem dX7_comes_191 : decode cX7_comes 191 = .ok (.aload_n 0, 1) := by decide +kernel
theorem dX7_comes_192 : decode cX7_comes 192 = .ok (.getfield 19, 3) := by decide +kernel
theorem dX7_comes_195 : decode cX7_comes 195 = .ok (.iload 4, 2) := by decide +kernel
theorem dX7_comes_197 : decode cX7_comes 197 = .ok (.baload, 1) := by decide +kernel
theorem dX7_comes_198 : decode cX7_comes 198 = .ok (.ifCond .eq 12, 3) := by decide +kernel
theorem dX7_comes_201 : decode cX7_comes 201 = .ok (.aload_n 0, 1) := by decide +kernel
theorem dX7_comes_202 : decode cX7_comes 202 = .ok (.getfield 221, 3) := by decide +kernel
theorem dX7_comes_205 : decode cX7_comes 205 = .ok (.ifCond .ne 5, 3) := by decide +kernel
theorem dX7_comes_208 : decode cX7_comes 208 = .ok (.iconst 5, 1) := by decide +kernel
theorem dX7_comes_209 : decode cX7_comes 209 = .ok (.ireturn, 1) := by decide +kernel
theorem dX7_comes_210 : decode cX7_comes 210 = .ok (.aload_n 0, 1) := by decide +kernel
theorem dX7_comes_211 : decode cX7_comes 211 = .ok (.iload_n 1, 1) := by decide +kernel
theorem dX7_comes_212 : decode cX7_comes 212 = .ok (.invokevirtual 227, 3) := by decide +kernel
theorem dX7_comes_215 : decode cX7_comes 215 = .ok (.iinc 3 1, 3) := by decide +kernel
theorem dX7_comes_218 : decode cX7_comes 218 = .ok (.goto (-216), 3) := by decide +kernel
theorem dX7_comes_221 : decode cX7_comes 221 = .ok (.iconst 4, 1) := by decide +kernel
theorem dX7_comes_222 : decode cX7_comes 222 = .ok (.ireturn, 1) := by decide +kernel
theorem dX7_lacks_0 : decode cX7_lacks 0 = .ok (.iconst 0, 1) := by decide +kernel
theorem dX7_lacks_1 : decode cX7_lacks 1 = .ok (.istore_n 2, 1) := by decide +kernel
theorem dX7_lacks_2 : decode cX7_lacks 2 = .ok (.iconst 0, 1) := by decide +kernel
theorem dX7_lacks_3 : decode cX7_lacks 3 = .ok (.istore_n 3, 1) := by decide +kernel
theorem dX7_lacks_4 : decode cX7_lacks 4 = .ok (.iload_n 3, 1) := by decide +kernel
theorem dX7_lacks_5 : decode cX7_lacks 5 = .ok (.sipush 200, 3) := by decide +kernel
theorem dX7_lacks_8 : decode cX7_lacks 8 = .ok (.if_icmp .ge 103, 3) := by decide +kernel
theorem dX7_lacks_11 : decode cX7_lacks 11 = .ok (.aload_n 0, 1) := by decide +kernel
theorem dX7_lacks_12 : decode cX7_lacks 12 = .ok (.getfield 218, 3) := by decide +kernel
theorem dX7_lacks_15 : decode cX7_lacks 15 = .ok (.ifCond .ge 51, 3) := by decide +kernel
theorem dX7_lacks_18 : decode cX7_lacks 18 = .ok (.aload_n 0, 1) := by decide +kernel
theorem dX7_lacks_19 : decode cX7_lacks 19 = .ok (.getfield 215, 3) := by decide +kernel
theorem dX7_lacks_22 : decode cX7_lacks 22 = .ok (.ifCond .ne 5, 3) := by decide +kernel
theorem dX7_lacks_25 : decode cX7_lacks 25 = .ok (.iload_n 2, 1) := by decide +kernel
theorem dX7_lacks_26 : decode cX7_lacks 26 = .ok (.ireturn, 1) := by decide +kernel
theorem dX7_lacks_27 : decode cX7_lacks 27 = .ok (.aload_n 0, 1) := by decide +kernel
theorem dX7_lacks_28 : decode cX7_lacks 28 = .ok (.dup, 1) := by decide +kernel
theorem dX7_lacks_29 : decode cX7_lacks 29 = .ok (.getfield 215, 3) := by decide +kernel
theorem dX7_lacks_32 : decode cX7_lacks 32 = .ok (.iconst 1, 1) := by decide +kernel
theorem dX7_lacks_33 : decode cX7_lacks 33 = .ok (.isub, 1) := by decide +kernel
theorem dX7_lacks_34 : decode cX7_lacks 34 = .ok (.putfield 215, 3) := by decide +kernel
theorem dX7_lacks_37 : decode cX7_lacks 37 = .ok (.aload_n 0, 1) := by decide +kernel
theorem dX7_lacks_38 : decode cX7_lacks 38 = .ok (.aload_n 0, 1) := by decide +kernel
theorem dX7_lacks_39 : decode cX7_lacks 39 = .ok (.getfield 90, 3) := by decide +kernel
theorem dX7_lacks_42 : decode cX7_lacks 42 = .ok (.aload_n 0, 1) := by decide +kernel
theorem dX7_lacks_43 : decode cX7_lacks 43 = .ok (.getfield 215, 3) := by decide +kernel
theorem dX7_lacks_46 : decode cX7_lacks 46 = .ok (.iaload, 1) := by decide +kernel
theorem dX7_lacks_47 : decode cX7_lacks 47 = .ok (.putfield 218, 3) := by decide +kernel
theorem dX7_lacks_50 : decode cX7_lacks 50 = .ok (.aload_n 0, 1) := by decide +kernel
theorem dX7_lacks_51 : decode cX7_lacks 51 = .ok (.aload_n 0, 1) := by decide +kernel
theorem dX7_lacks_52 : decode cX7_lacks 52 = .ok (.getfield 93, 3) := by decide +kernel
theorem dX7_lacks_55 : decode cX7_lacks 55 = .ok (.aload_n 0, 1) := by decide +kernel
theorem dX7_lacks_56 : decode cX7_lacks 56 = .ok (.getfield 215, 3) := by decide +kernel
theorem dX7_lacks_59 : decode cX7_lacks 59 = .ok (.iaload, 1) := by decide +kernel
theorem dX7_lacks_60 : decode cX7_lacks 60 = .ok (.putfield 221, 3) := by decide +kernel
theorem dX7_lacks_63 : decode cX7_lacks 63 = .ok (.goto 42, 3) := by decide +kernel
theorem dX7_lacks_66 : decode cX7_lacks 66 = .ok (.iload_n 2, 1) := by decide +kernel
theorem dX7_lacks_67 : decode cX7_lacks 67 = .ok (.ifCond .ne 27, 3) := by decide +kernel
theorem dX7_lacks_70 : decode cX7_lacks 70 = .ok (.aload_n 0, 1) := by decide +kernel
theorem dX7_lacks_71 : decode cX7_lacks 71 = .ok (.getfield 19, 3) := by decide +kernel
theorem dX7_lacks_74 : decode cX7_lacks 74 = .ok (.bipush 24, 2) := by decide +kernel
theorem dX7_lacks_76 : decode cX7_lacks 76 = .ok (.iload_n 1, 1) := by decide +kernel
theorem dX7_lacks_77 : decode cX7_lacks 77 = .ok (.imul, 1) := by decide +kernel
theorem dX7_lacks_78 : decode cX7_lacks 78 = .ok (.aload_n 0, 1) := by decide +kernel
theorem dX7_lacks_79 : decode cX7_lacks 79 = .ok (.getfield 218, 3) := by decide +kernel
theorem dX7_lacks_82 : decode cX7_lacks 82 = .ok (.iadd, 1) := by decide +kernel
theorem dX7_lacks_83 : decode cX7_lacks 83 = .ok (.baload, 1) := by decide +kernel
theorem dX7_lacks_84 : decode cX7_lacks 84 = .ok (.ifCond .eq 14, 3) := by decide +kernel
theorem dX7_lacks_87 : decode cX7_lacks 87 = .ok (.aload_n 0, 1) := by decide +kernel
theorem dX7_lacks_88 : decode cX7_lacks 88 = .ok (.getfield 221, 3) := by decide +kernel
theorem dX7_lacks_91 : decode cX7_lacks 91 = .ok (.ifCond .ne 7, 3) := by decide +kernel
theorem dX7_lacks_94 : decode cX7_lacks 94 = .ok (.iconst 1, 1) := by decide +kernel
theorem dX7_lacks_95 : decode cX7_lacks 95 = .ok (.goto 4, 3) := by decide +kernel
theorem dX7_lacks_98 : decode cX7_lacks 98 = .ok (.iconst 0, 1) := by decide +kernel
theorem dX7_lacks_99 : decode cX7_lacks 99 = .ok (.istore_n 2, 1) := by decide +kernel
theorem dX7_lacks_100 : decode cX7_lacks 100 = .ok (.aload_n 0, 1) := by decide +kernel
theorem dX7_lacks_101 : decode cX7_lacks 101 = .ok (.iload_n 1, 1) := by decide +kernel
theorem dX7_lacks_102 : decode cX7_lacks 102 = .ok (.invokevirtual 227, 3) := by decide +kernel
theorem dX7_lacks_105 : decode cX7_lacks 105 = .ok (.iinc 3 1, 3) := by decide +kernel
theorem dX7_lacks_108 : decode cX7_lacks 108 = .ok (.goto (-104), 3) := by decide +kernel
theorem dX7_lacks_111 : decode cX7_lacks 111 = .ok (.iload_n 2, 1) := by decide +kernel
theorem dX7_lacks_112 : decode cX7_lacks 112 = .ok (.ireturn, 1) := by decide +kernel
theorem dX7_typeOf_0 : decode cX7_typeOf 0 = .ok (.aload_n 0, 1) := by decide +kernel
theorem dX7_typeOf_1 : decode cX7_typeOf 1 = .ok (.aload_n 0, 1) := by decide +kernel
theorem dX7_typeOf_2 : decode cX7_typeOf 2 = .ok (.getfield 66, 3) := by decide +kernel
theorem dX7_typeOf_5 : decode cX7_typeOf 5 = .ok (.iload_n 1, 1) := by decide +kernel
theorem dX7_typeOf_6 : decode cX7_typeOf 6 = .ok (.iaload, 1) := by decide +kernel
theorem dX7_typeOf_7 : decode cX7_typeOf 7 = .ok (.iconst 1, 1) := by decide +kernel
theorem dX7_typeOf_8 : decode cX7_typeOf 8 = .ok (.invokevirtual 205, 3) := by decide +kernel
theorem dX7_typeOf_11 : decode cX7_typeOf 11 = .ok (.istore_n 2, 1) := by decide +kernel
theorem dX7_typeOf_12 : decode cX7_typeOf 12 = .ok (.aload_n 0, 1) := by decide +kernel
theorem dX7_typeOf_13 : decode cX7_typeOf 13 = .ok (.iload_n 2, 1) := by decide +kernel
theorem dX7_typeOf_14 : decode cX7_typeOf 14 = .ok (.invokevirtual 202, 3) := by decide +kernel
theorem dX7_typeOf_17 : decode cX7_typeOf 17 = .ok (.iconst 1, 1) := by decide +kernel
theorem dX7_typeOf_18 : decode cX7_typeOf 18 = .ok (.if_icmp .ne 20, 3) := by decide +kernel
theorem dX7_typeOf_21 : decode cX7_typeOf 21 = .ok (.aload_n 0, 1) := by decide +kernel
theorem dX7_typeOf_22 : decode cX7_typeOf 22 = .ok (.getfield 63, 3) := by decide +kernel
theorem dX7_typeOf_25 : decode cX7_typeOf 25 = .ok (.aload_n 0, 1) := by decide +kernel
theorem dX7_typeOf_26 : decode cX7_typeOf 26 = .ok (.getfield 60, 3) := by decide +kernel
theorem dX7_typeOf_29 : decode cX7_typeOf 29 = .ok (.iload_n 2, 1) := by decide +kernel
theorem dX7_typeOf_30 : decode cX7_typeOf 30 = .ok (.iaload, 1) := by decide +kernel
theorem dX7_typeOf_31 : decode cX7_typeOf 31 = .ok (.iaload, 1) := by decide +kernel
theorem dX7_typeOf_32 : decode cX7_typeOf 32 = .ok (.bipush 48, 2) := by decide +kernel
theorem dX7_typeOf_34 : decode cX7_typeOf 34 = .ok (.isub, 1) := by decide +kernel
theorem dX7_typeOf_35 : decode cX7_typeOf 35 = .ok (.goto 4, 3) := by decide +kernel
theorem dX7_typeOf_38 : decode cX7_typeOf 38 = .ok (.iconst (-1), 1) := by decide +kernel
theorem dX7_typeOf_39 : decode cX7_typeOf 39 = .ok (.istore_n 3, 1) := by decide +kernel
theorem dX7_typeOf_40 : decode cX7_typeOf 40 = .ok (.iload_n 3, 1) := by decide +kernel
theorem dX7_typeOf_41 : decode cX7_typeOf 41 = .ok (.invokestatic 122, 3) := by decide +kernel
theorem dX7_typeOf_44 : decode cX7_typeOf 44 = .ok (.ifCond .eq 27, 3) := by decide +kernel
theorem dX7_typeOf_47 : decode cX7_typeOf 47 = .ok (.aload_n 0, 1) := by decide +kernel
theorem dX7_typeOf_48 : decode cX7_typeOf 48 = .ok (.getfield 13, 3) := by decide +kernel
theorem dX7_typeOf_51 : decode cX7_typeOf 51 = .ok (.iload_n 3, 1) := by decide +kernel
theorem dX7_typeOf_52 : decode cX7_typeOf 52 = .ok (.invokestatic 122, 3) := by decide +kernel
theorem dX7_typeOf_55 : decode cX7_typeOf 55 = .ok (.ifCond .eq 7, 3) := by decide +kernel
theorem dX7_typeOf_58 : decode cX7_typeOf 58 = .ok (.iload_n 3, 1) := by decide +kernel
theorem dX7_typeOf_59 : decode cX7_typeOf 59 = .ok (.goto 4, 3) := by decide +kernel
theorem dX7_typeOf_62 : decode cX7_typeOf 62 = .ok (.iconst 0, 1) := by decide +kernel
theorem dX7_typeOf_63 : decode cX7_typeOf 63 = .ok (.iaload, 1) := by decide +kernel
theorem dX7_typeOf_64 : decode cX7_typeOf 64 = .ok (.ifCond .le 7, 3) := by decide +kernel
theorem dX7_typeOf_67 : decode cX7_typeOf 67 = .ok (.iload_n 3, 1) := by decide +kernel
theorem dX7_typeOf_68 : decode cX7_typeOf 68 = .ok (.goto 4, 3) := by decide +kernel
theorem dX7_typeOf_71 : decode cX7_typeOf 71 = .ok (.iconst (-1), 1) := by decide +kernel
theorem dX7_typeOf_72 : decode cX7_typeOf 72 = .ok (.ireturn, 1) := by decide +kernel
theorem dX7_judge_0 : decode cX7_judge 0 = .ok (.aload_n 0, 1) := by decide +kernel
theorem dX7_judge_1 : decode cX7_judge 1 = .ok (.getfield 66, 3) := by decide +kernel
theorem dX7_judge_4 : decode cX7_judge 4 = .ok (.iload_n 1, 1) := by decide +kernel
theorem dX7_judge_5 : decode cX7_judge 5 = .ok (.iaload, 1) := by decide +kernel
theorem dX7_judge_6 : decode cX7_judge 6 = .ok (.istore_n 2, 1) := by decide +kernel
theorem dX7_judge_7 : decode cX7_judge 7 = .ok (.aload_n 0, 1) := by decide +kernel
theorem dX7_judge_8 : decode cX7_judge 8 = .ok (.getfield 69, 3) := by decide +kernel
theorem dX7_judge_11 : decode cX7_judge 11 = .ok (.iload_n 1, 1) := by decide +kernel
theorem dX7_judge_12 : decode cX7_judge 12 = .ok (.iaload, 1) := by decide +kernel
theorem dX7_judge_13 : decode cX7_judge 13 = .ok (.istore_n 3, 1) := by decide +kernel
theorem dX7_judge_14 : decode cX7_judge 14 = .ok (.aload_n 0, 1) := by decide +kernel
theorem dX7_judge_15 : decode cX7_judge 15 = .ok (.iload_n 2, 1) := by decide +kernel
theorem dX7_judge_16 : decode cX7_judge 16 = .ok (.iconst 0, 1) := by decide +kernel
theorem dX7_judge_17 : decode cX7_judge 17 = .ok (.iload_n 3, 1) := by decide +kernel
theorem dX7_judge_18 : decode cX7_judge 18 = .ok (.iload_n 3, 1) := by decide +kernel
theorem dX7_judge_19 : decode cX7_judge 19 = .ok (.iload_n 2, 1) := by decide +kernel
theorem dX7_judge_20 : decode cX7_judge 20 = .ok (.isub, 1) := by decide +kernel
theorem dX7_judge_21 : decode cX7_judge 21 = .ok (.iconst 1, 1) := by decide +kernel
theorem dX7_judge_22 : decode cX7_judge 22 = .ok (.iadd, 1) := by decide +kernel
theorem dX7_judge_23 : decode cX7_judge 23 = .ok (.invokevirtual 230, 3) := by decide +kernel
theorem dX7_judge_26 : decode cX7_judge 26 = .ok (.istore 4, 2) := by decide +kernel
theorem dX7_judge_28 : decode cX7_judge 28 = .ok (.aload_n 0, 1) := by decide +kernel
theorem dX7_judge_29 : decode cX7_judge 29 = .ok (.getfield 75, 3) := by decide +kernel
theorem dX7_judge_32 : decode cX7_judge 32 = .ok (.iload_n 1, 1) := by decide +kernel
theorem dX7_judge_33 : decode cX7_judge 33 = .ok (.iload 4, 2) := by decide +kernel
theorem dX7_judge_35 : decode cX7_judge 35 = .ok (.iconst 2, 1) := by decide +kernel
theorem dX7_judge_36 : decode cX7_judge 36 = .ok (.irem, 1) := by decide +kernel
theorem dX7_judge_37 : decode cX7_judge 37 = .ok (.iconst 1, 1) := by decide +kernel
theorem dX7_judge_38 : decode cX7_judge 38 = .ok (.if_icmp .ne 7, 3) := by decide +kernel
theorem dX7_judge_41 : decode cX7_judge 41 = .ok (.iconst 1, 1) := by decide +kernel
theorem dX7_judge_42 : decode cX7_judge 42 = .ok (.goto 5, 3) := by decide +kernel
theorem dX7_judge_45 : decode cX7_judge 45 = .ok (.iload 4, 2) := by decide +kernel
theorem dX7_judge_47 : decode cX7_judge 47 = .ok (.iastore, 1) := by decide +kernel
theorem dX7_judge_48 : decode cX7_judge 48 = .ok (.aload_n 0, 1) := by decide +kernel
theorem dX7_judge_49 : decode cX7_judge 49 = .ok (.getfield 78, 3) := by decide +kernel
theorem dX7_judge_52 : decode cX7_judge 52 = .ok (.iload_n 1, 1) := by decide +kernel
theorem dX7_judge_53 : decode cX7_judge 53 = .ok (.iload_n 3, 1) := by decide +kernel
theorem dX7_judge_54 : decode cX7_judge 54 = .ok (.iastore, 1) := by decide +kernel
theorem dX7_judge_55 : decode cX7_judge 55 = .ok (.iload 4, 2) := by decide +kernel
theorem dX7_judge_57 : decode cX7_judge 57 = .ok (.ifCond .le 4, 3) := by decide +kernel
theorem dX7_judge_60 : decode cX7_judge 60 = .ok (.return_, 1) := by decide +kernel
theorem dX7_judge_61 : decode cX7_judge 61 = .ok (.aload_n 0, 1) := by decide +kernel
theorem dX7_judge_62 : decode cX7_judge 62 = .ok (.getfield 78, 3) := by decide +kernel
theorem dX7_judge_65 : decode cX7_judge 65 = .ok (.iload_n 1, 1) := by decide +kernel
theorem dX7_judge_66 : decode cX7_judge 66 = .ok (.iload_n 2, 1) := by decide +kernel
theorem dX7_judge_67 : decode cX7_judge 67 = .ok (.iastore, 1) := by decide +kernel
theorem dX7_judge_68 : decode cX7_judge 68 = .ok (.iconst 0, 1) := by decide +kernel
theorem dX7_judge_69 : decode cX7_judge 69 = .ok (.istore 5, 2) := by decide +kernel
theorem dX7_judge_71 : decode cX7_judge 71 = .ok (.iload 5, 2) := by decide +kernel
theorem dX7_judge_73 : decode cX7_judge 73 = .ok (.iload_n 1, 1) := by decide +kernel
theorem dX7_judge_74 : decode cX7_judge 74 = .ok (.if_icmp .ge 43, 3) := by decide +kernel
theorem dX7_judge_77 : decode cX7_judge 77 = .ok (.aload_n 0, 1) := by decide +kernel
theorem dX7_judge_78 : decode cX7_judge 78 = .ok (.aload_n 0, 1) := by decide +kernel
theorem dX7_judge_79 : decode cX7_judge 79 = .ok (.aload_n 0, 1) := by decide +kernel
theorem dX7_judge_80 : decode cX7_judge 80 = .ok (.getfield 66, 3) := by decide +kernel
theorem dX7_judge_83 : decode cX7_judge 83 = .ok (.iload 5, 2) := by decide +kernel
theorem dX7_judge_85 : decode cX7_judge 85 = .ok (.iaload, 1) := by decide +kernel
theorem dX7_judge_86 : decode cX7_judge 86 = .ok (.iconst 0, 1) := by decide +kernel
theorem dX7_judge_87 : decode cX7_judge 87 = .ok (.invokevirtual 205, 3) := by decide +kernel
theorem dX7_judge_90 : decode cX7_judge 90 = .ok (.aload_n 0, 1) := by decide +kernel
theorem dX7_judge_91 : decode cX7_judge 91 = .ok (.iload_n 2, 1) := by decide +kernel
theorem dX7_judge_92 : decode cX7_judge 92 = .ok (.iconst 0, 1) := by decide +kernel
theorem dX7_judge_93 : decode cX7_judge 93 = .ok (.invokevirtual 205, 3) := by decide +kernel
theorem dX7_judge_96 : decode cX7_judge 96 = .ok (.invokevirtual 208, 3) := by decide +kernel
theorem dX7_judge_99 : decode cX7_judge 99 = .ok (.ifCond .eq 12, 3) := by decide +kernel
theorem dX7_judge_102 : decode cX7_judge 102 = .ok (.aload_n 0, 1) := by decide +kernel
theorem dX7_judge_103 : decode cX7_judge 103 = .ok (.getfield 75, 3) := by decide +kernel
theorem dX7_judge_106 : decode cX7_judge 106 = .ok (.iload_n 1, 1) := by decide +kernel
theorem dX7_judge_107 : decode cX7_judge 107 = .ok (.bipush 7, 2) := by decide +kernel
theorem dX7_judge_109 : decode cX7_judge 109 = .ok (.iastore, 1) := by decide +kernel
theorem dX7_judge_110 : decode cX7_judge 110 = .ok (.return_, 1) := by decide +kernel
theorem dX7_judge_111 : decode cX7_judge 111 = .ok (.iinc 5 1, 3) := by decide +kernel
theorem dX7_judge_114 : decode cX7_judge 114 = .ok (.goto (-43), 3) := by decide +kernel
theorem dX7_judge_117 : decode cX7_judge 117 = .ok (.aload_n 0, 1) := by decide +kernel
theorem dX7_judge_118 : decode cX7_judge 118 = .ok (.iload_n 1, 1) := by decide +kernel
theorem dX7_judge_119 : decode cX7_judge 119 = .ok (.invokevirtual 234, 3) := by decide +kernel
theorem dX7_judge_122 : decode cX7_judge 122 = .ok (.istore 5, 2) := by decide +kernel
theorem dX7_judge_124 : decode cX7_judge 124 = .ok (.iload 5, 2) := by decide +kernel
theorem dX7_judge_126 : decode cX7_judge 126 = .ok (.ifCond .ge 11, 3) := by decide +kernel
theorem dX7_judge_129 : decode cX7_judge 129 = .ok (.aload_n 0, 1) := by decide +kernel
theorem dX7_judge_130 : decode cX7_judge 130 = .ok (.getfield 75, 3) := by decide +kernel
theorem dX7_judge_133 : decode cX7_judge 133 = .ok (.iload_n 1, 1) := by decide +kernel
theorem dX7_judge_134 : decode cX7_judge 134 = .ok (.iconst 3, 1) := by decide +kernel
theorem dX7_judge_135 : decode cX7_judge 135 = .ok (.iastore, 1) := by decide +kernel
theorem dX7_judge_136 : decode cX7_judge 136 = .ok (.return_, 1) := by decide +kernel
theorem dX7_judge_137 : decode cX7_judge 137 = .ok (.aload_n 0, 1) := by decide +kernel
theorem dX7_judge_138 : decode cX7_judge 138 = .ok (.iconst 0, 1) := by decide +kernel
theorem dX7_judge_139 : decode cX7_judge 139 = .ok (.putfield 215, 3) := by decide +kernel
theorem dX7_judge_142 : decode cX7_judge 142 = .ok (.aload_n 0, 1) := by decide +kernel
theorem dX7_judge_143 : decode cX7_judge 143 = .ok (.iconst 0, 1) := by decide +kernel
theorem dX7_judge_144 : decode cX7_judge 144 = .ok (.putfield 221, 3) := by decide +kernel
theorem dX7_judge_147 : decode cX7_judge 147 = .ok (.aload_n 0, 1) := by decide +kernel
theorem dX7_judge_148 : decode cX7_judge 148 = .ok (.aload_n 0, 1) := by decide +kernel
theorem dX7_judge_149 : decode cX7_judge 149 = .ok (.iload 5, 2) := by decide +kernel
theorem dX7_judge_151 : decode cX7_judge 151 = .ok (.iconst (-1), 1) := by decide +kernel
theorem dX7_judge_152 : decode cX7_judge 152 = .ok (.iconst (-1), 1) := by decide +kernel
theorem dX7_judge_153 : decode cX7_judge 153 = .ok (.invokevirtual 118, 3) := by decide +kernel
theorem dX7_judge_156 : decode cX7_judge 156 = .ok (.putfield 218, 3) := by decide +kernel
theorem dX7_judge_159 : decode cX7_judge 159 = .ok (.iload_n 2, 1) := by decide +kernel
theorem dX7_judge_160 : decode cX7_judge 160 = .ok (.iconst 1, 1) := by decide +kernel
theorem dX7_judge_161 : decode cX7_judge 161 = .ok (.iadd, 1) := by decide +kernel
theorem dX7_judge_162 : decode cX7_judge 162 = .ok (.istore 6, 2) := by decide +kernel
theorem dX7_judge_164 : decode cX7_judge 164 = .ok (.iload 6, 2) := by decide +kernel
theorem dX7_judge_166 : decode cX7_judge 166 = .ok (.iload_n 3, 1) := by decide +kernel
theorem dX7_judge_167 : decode cX7_judge 167 = .ok (.if_icmp .ge 46, 3) := by decide +kernel
theorem dX7_judge_170 : decode cX7_judge 170 = .ok (.aload_n 0, 1) := by decide +kernel
theorem dX7_judge_171 : decode cX7_judge 171 = .ok (.getfield 75, 3) := by decide +kernel
theorem dX7_judge_174 : decode cX7_judge 174 = .ok (.iload_n 1, 1) := by decide +kernel
theorem dX7_judge_175 : decode cX7_judge 175 = .ok (.aload_n 0, 1) := by decide +kernel
theorem dX7_judge_176 : decode cX7_judge 176 = .ok (.iload 5, 2) := by decide +kernel
theorem dX7_judge_178 : decode cX7_judge 178 = .ok (.aload_n 0, 1) := by decide +kernel
theorem dX7_judge_179 : decode cX7_judge 179 = .ok (.getfield 51, 3) := by decide +kernel
theorem dX7_judge_182 : decode cX7_judge 182 = .ok (.iload 6, 2) := by decide +kernel
theorem dX7_judge_184 : decode cX7_judge 184 = .ok (.iaload, 1) := by decide +kernel
theorem dX7_judge_185 : decode cX7_judge 185 = .ok (.invokevirtual 237, 3) := by decide +kernel
theorem dX7_judge_188 : decode cX7_judge 188 = .ok (.iastore, 1) := by decide +kernel
theorem dX7_judge_189 : decode cX7_judge 189 = .ok (.aload_n 0, 1) := by decide +kernel
theorem dX7_judge_190 : decode cX7_judge 190 = .ok (.getfield 78, 3) := by decide +kernel
theorem dX7_judge_193 : decode cX7_judge 193 = .ok (.iload_n 1, 1) := by decide +kernel
theorem dX7_judge_194 : decode cX7_judge 194 = .ok (.iload 6, 2) := by decide +kernel
theorem dX7_judge_196 : decode cX7_judge 196 = .ok (.iastore, 1) := by decide +kernel
theorem dX7_judge_197 : decode cX7_judge 197 = .ok (.aload_n 0, 1) := by decide +kernel
theorem dX7_judge_198 : decode cX7_judge 198 = .ok (.getfield 75, 3) := by decide +kernel
theorem dX7_judge_201 : decode cX7_judge 201 = .ok (.iload_n 1, 1) := by decide +kernel
theorem dX7_judge_202 : decode cX7_judge 202 = .ok (.iaload, 1) := by decide +kernel
theorem dX7_judge_203 : decode cX7_judge 203 = .ok (.ifCond .le 4, 3) := by decide +kernel
theorem dX7_judge_206 : decode cX7_judge 206 = .ok (.return_, 1) := by decide +kernel
theorem dX7_judge_207 : decode cX7_judge 207 = .ok (.iinc 6 1, 3) := by decide +kernel
theorem dX7_judge_210 : decode cX7_judge 210 = .ok (.goto (-46), 3) := by decide +kernel
theorem dX7_judge_213 : decode cX7_judge 213 = .ok (.aload_n 0, 1) := by decide +kernel
theorem dX7_judge_214 : decode cX7_judge 214 = .ok (.iload 5, 2) := by decide +kernel
theorem dX7_judge_216 : decode cX7_judge 216 = .ok (.invokevirtual 240, 3) := by decide +kernel
theorem dX7_judge_219 : decode cX7_judge 219 = .ok (.istore 6, 2) := by decide +kernel
theorem dX7_judge_221 : decode cX7_judge 221 = .ok (.aload_n 0, 1) := by decide +kernel
theorem dX7_judge_222 : decode cX7_judge 222 = .ok (.getfield 75, 3) := by decide +kernel
theorem dX7_judge_225 : decode cX7_judge 225 = .ok (.iload_n 1, 1) := by decide +kernel
theorem dX7_judge_226 : decode cX7_judge 226 = .ok (.iload 6, 2) := by decide +kernel
theorem dX7_judge_228 : decode cX7_judge 228 = .ok (.ifCond .eq 7, 3) := by decide +kernel
theorem dX7_judge_231 : decode cX7_judge 231 = .ok (.iconst 5, 1) := by decide +kernel
theorem dX7_judge_232 : decode cX7_judge 232 = .ok (.goto 4, 3) := by decide +kernel
theorem dX7_judge_235 : decode cX7_judge 235 = .ok (.iconst 0, 1) := by decide +kernel
theorem dX7_judge_236 : decode cX7_judge 236 = .ok (.iastore, 1) := by decide +kernel
theorem dX7_judge_237 : decode cX7_judge 237 = .ok (.aload_n 0, 1) := by decide +kernel
theorem dX7_judge_238 : decode cX7_judge 238 = .ok (.getfield 78, 3) := by decide +kernel
theorem dX7_judge_241 : decode cX7_judge 241 = .ok (.iload_n 1, 1) := by decide +kernel
theorem dX7_judge_242 : decode cX7_judge 242 = .ok (.iload 6, 2) := by decide +kernel
theorem dX7_judge_244 : decode cX7_judge 244 = .ok (.ifCond .eq 7, 3) := by decide +kernel
theorem dX7_judge_247 : decode cX7_judge 247 = .ok (.iload_n 3, 1) := by decide +kernel
theorem dX7_judge_248 : decode cX7_judge 248 = .ok (.goto 4, 3) := by decide +kernel
theorem dX7_judge_251 : decode cX7_judge 251 = .ok (.iconst (-1), 1) := by decide +kernel
theorem dX7_judge_252 : decode cX7_judge 252 = .ok (.iastore, 1) := by decide +kernel
theorem dX7_judge_253 : decode cX7_judge 253 = .ok (.return_, 1) := by decide +kernel
theorem dX7_read_0 : decode cX7_read 0 = .ok (.aload_n 0, 1) := by decide +kernel
theorem dX7_read_1 : decode cX7_read 1 = .ok (.iconst (-1), 1) := by decide +kernel
theorem dX7_read_2 : decode cX7_read 2 = .ok (.putfield 32, 3) := by decide +kernel
theorem dX7_read_5 : decode cX7_read 5 = .ok (.aload_n 0, 1) := by decide +kernel
theorem dX7_read_6 : decode cX7_read 6 = .ok (.aload_n 0, 1) := by decide +kernel
theorem dX7_read_7 : decode cX7_read 7 = .ok (.invokevirtual 243, 3) := by decide +kernel
theorem dX7_read_10 : decode cX7_read 10 = .ok (.ifCond .eq 7, 3) := by decide +kernel
theorem dX7_read_13 : decode cX7_read 13 = .ok (.iconst 0, 1) := by decide +kernel
theorem dX7_read_14 : decode cX7_read 14 = .ok (.goto 4, 3) := by decide +kernel
theorem dX7_read_17 : decode cX7_read 17 = .ok (.iconst 1, 1) := by decide +kernel
theorem dX7_read_18 : decode cX7_read 18 = .ok (.putfield 102, 3) := by decide +kernel
theorem dX7_read_21 : decode cX7_read 21 = .ok (.aload_n 0, 1) := by decide +kernel
theorem dX7_read_22 : decode cX7_read 22 = .ok (.getfield 102, 3) := by decide +kernel
theorem dX7_read_25 : decode cX7_read 25 = .ok (.ifCond .le 5, 3) := by decide +kernel
theorem dX7_read_28 : decode cX7_read 28 = .ok (.iconst 0, 1) := by decide +kernel
theorem dX7_read_29 : decode cX7_read 29 = .ok (.ireturn, 1) := by decide +kernel
theorem dX7_read_30 : decode cX7_read 30 = .ok (.aload_n 0, 1) := by decide +kernel
theorem dX7_read_31 : decode cX7_read 31 = .ok (.iconst (-1), 1) := by decide +kernel
theorem dX7_read_32 : decode cX7_read 32 = .ok (.putfield 32, 3) := by decide +kernel
theorem dX7_read_35 : decode cX7_read 35 = .ok (.aload_n 0, 1) := by decide +kernel
theorem dX7_read_36 : decode cX7_read 36 = .ok (.aload_n 0, 1) := by decide +kernel
theorem dX7_read_37 : decode cX7_read 37 = .ok (.invokevirtual 247, 3) := by decide +kernel
theorem dX7_read_40 : decode cX7_read 40 = .ok (.ifCond .eq 7, 3) := by decide +kernel
theorem dX7_read_43 : decode cX7_read 43 = .ok (.iconst 0, 1) := by decide +kernel
theorem dX7_read_44 : decode cX7_read 44 = .ok (.goto 4, 3) := by decide +kernel
theorem dX7_read_47 : decode cX7_read 47 = .ok (.iconst 2, 1) := by decide +kernel
theorem dX7_read_48 : decode cX7_read 48 = .ok (.putfield 102, 3) := by decide +kernel
theorem dX7_read_51 : decode cX7_read 51 = .ok (.aload_n 0, 1) := by decide +kernel
theorem dX7_read_52 : decode cX7_read 52 = .ok (.getfield 102, 3) := by decide +kernel
theorem dX7_read_55 : decode cX7_read 55 = .ok (.ifCond .le 5, 3) := by decide +kernel
theorem dX7_read_58 : decode cX7_read 58 = .ok (.iconst 0, 1) := by decide +kernel
theorem dX7_read_59 : decode cX7_read 59 = .ok (.ireturn, 1) := by decide +kernel
theorem dX7_read_60 : decode cX7_read 60 = .ok (.aload_n 0, 1) := by decide +kernel
theorem dX7_read_61 : decode cX7_read 61 = .ok (.invokevirtual 250, 3) := by decide +kernel
theorem dX7_read_64 : decode cX7_read 64 = .ok (.aload_n 0, 1) := by decide +kernel
theorem dX7_read_65 : decode cX7_read 65 = .ok (.iconst 1, 1) := by decide +kernel
theorem dX7_read_66 : decode cX7_read 66 = .ok (.putfield 253, 3) := by decide +kernel
theorem dX7_read_69 : decode cX7_read 69 = .ok (.aload_n 0, 1) := by decide +kernel
theorem dX7_read_70 : decode cX7_read 70 = .ok (.iconst 0, 1) := by decide +kernel
theorem dX7_read_71 : decode cX7_read 71 = .ok (.putfield 105, 3) := by decide +kernel
theorem dX7_read_74 : decode cX7_read 74 = .ok (.iconst 0, 1) := by decide +kernel
theorem dX7_read_75 : decode cX7_read 75 = .ok (.istore_n 1, 1) := by decide +kernel
theorem dX7_read_76 : decode cX7_read 76 = .ok (.iload_n 1, 1) := by decide +kernel
theorem dX7_read_77 : decode cX7_read 77 = .ok (.aload_n 0, 1) := by decide +kernel
theorem dX7_read_78 : decode cX7_read 78 = .ok (.getfield 196, 3) := by decide +kernel
theorem dX7_read_81 : decode cX7_read 81 = .ok (.if_icmp .ge 14, 3) := by decide +kernel
theorem dX7_read_84 : decode cX7_read 84 = .ok (.aload_n 0, 1) := by decide +kernel
theorem dX7_read_85 : decode cX7_read 85 = .ok (.iload_n 1, 1) := by decide +kernel
theorem dX7_read_86 : decode cX7_read 86 = .ok (.invokevirtual 257, 3) := by decide +kernel
theorem dX7_read_89 : decode cX7_read 89 = .ok (.iinc 1 1, 3) := by decide +kernel
theorem dX7_read_92 : decode cX7_read 92 = .ok (.goto (-16), 3) := by decide +kernel
theorem dX7_read_95 : decode cX7_read 95 = .ok (.iconst 0, 1) := by decide +kernel
theorem dX7_read_96 : decode cX7_read 96 = .ok (.istore_n 1, 1) := by decide +kernel
theorem dX7_read_97 : decode cX7_read 97 = .ok (.iload_n 1, 1) := by decide +kernel
theorem dX7_read_98 : decode cX7_read 98 = .ok (.aload_n 0, 1) := by decide +kernel
theorem dX7_read_99 : decode cX7_read 99 = .ok (.getfield 199, 3) := by decide +kernel
theorem dX7_read_102 : decode cX7_read 102 = .ok (.if_icmp .ge 69, 3) := by decide +kernel
theorem dX7_read_105 : decode cX7_read 105 = .ok (.iconst 0, 1) := by decide +kernel
theorem dX7_read_106 : decode cX7_read 106 = .ok (.istore_n 2, 1) := by decide +kernel
theorem dX7_read_107 : decode cX7_read 107 = .ok (.iconst 0, 1) := by decide +kernel
theorem dX7_read_108 : decode cX7_read 108 = .ok (.istore_n 3, 1) := by decide +kernel
theorem dX7_read_109 : decode cX7_read 109 = .ok (.iload_n 3, 1) := by decide +kernel
theorem dX7_read_110 : decode cX7_read 110 = .ok (.aload_n 0, 1) := by decide +kernel
theorem dX7_read_111 : decode cX7_read 111 = .ok (.getfield 196, 3) := by decide +kernel
theorem dX7_read_114 : decode cX7_read 114 = .ok (.if_icmp .ge 27, 3) := by decide +kernel
theorem dX7_read_117 : decode cX7_read 117 = .ok (.iload_n 2, 1) := by decide +kernel
theorem dX7_read_118 : decode cX7_read 118 = .ok (.aload_n 0, 1) := by decide +kernel
theorem dX7_read_119 : decode cX7_read 119 = .ok (.getfield 72, 3) := by decide +kernel
theorem dX7_read_122 : decode cX7_read 122 = .ok (.iload_n 3, 1) := by decide +kernel
theorem dX7_read_123 : decode cX7_read 123 = .ok (.iaload, 1) := by decide +kernel
theorem dX7_read_124 : decode cX7_read 124 = .ok (.iload_n 1, 1) := by decide +kernel
theorem dX7_read_125 : decode cX7_read 125 = .ok (.if_icmp .ne 7, 3) := by decide +kernel
theorem dX7_read_128 : decode cX7_read 128 = .ok (.iconst 1, 1) := by decide +kernel
theorem dX7_read_129 : decode cX7_read 129 = .ok (.goto 4, 3) := by decide +kernel
theorem dX7_read_132 : decode cX7_read 132 = .ok (.iconst 0, 1) := by decide +kernel
theorem dX7_read_133 : decode cX7_read 133 = .ok (.iadd, 1) := by decide +kernel
theorem dX7_read_134 : decode cX7_read 134 = .ok (.istore_n 2, 1) := by decide +kernel
theorem dX7_read_135 : decode cX7_read 135 = .ok (.iinc 3 1, 3) := by decide +kernel
theorem dX7_read_138 : decode cX7_read 138 = .ok (.goto (-29), 3) := by decide +kernel
theorem dX7_read_141 : decode cX7_read 141 = .ok (.aload_n 0, 1) := by decide +kernel
theorem dX7_read_142 : decode cX7_read 142 = .ok (.getfield 87, 3) := by decide +kernel
theorem dX7_read_145 : decode cX7_read 145 = .ok (.iload_n 1, 1) := by decide +kernel
theorem dX7_read_146 : decode cX7_read 146 = .ok (.aload_n 0, 1) := by decide +kernel
theorem dX7_read_147 : decode cX7_read 147 = .ok (.aload_n 0, 1) := by decide +kernel
theorem dX7_read_148 : decode cX7_read 148 = .ok (.getfield 81, 3) := by decide +kernel
theorem dX7_read_151 : decode cX7_read 151 = .ok (.iload_n 1, 1) := by decide +kernel
theorem dX7_read_152 : decode cX7_read 152 = .ok (.iaload, 1) := by decide +kernel
theorem dX7_read_153 : decode cX7_read 153 = .ok (.iconst 0, 1) := by decide +kernel
theorem dX7_read_154 : decode cX7_read 154 = .ok (.aload_n 0, 1) := by decide +kernel
theorem dX7_read_155 : decode cX7_read 155 = .ok (.getfield 84, 3) := by decide +kernel
theorem dX7_read_158 : decode cX7_read 158 = .ok (.iload_n 1, 1) := by decide +kernel
theorem dX7_read_159 : decode cX7_read 159 = .ok (.iaload, 1) := by decide +kernel
theorem dX7_read_160 : decode cX7_read 160 = .ok (.iload_n 2, 1) := by decide +kernel
theorem dX7_read_161 : decode cX7_read 161 = .ok (.invokevirtual 230, 3) := by decide +kernel
theorem dX7_read_164 : decode cX7_read 164 = .ok (.iastore, 1) := by decide +kernel
theorem dX7_read_165 : decode cX7_read 165 = .ok (.iinc 1 1, 3) := by decide +kernel
theorem dX7_read_168 : decode cX7_read 168 = .ok (.goto (-71), 3) := by decide +kernel
theorem dX7_read_171 : decode cX7_read 171 = .ok (.aload_n 0, 1) := by decide +kernel
theorem dX7_read_172 : decode cX7_read 172 = .ok (.aload_n 0, 1) := by decide +kernel
theorem dX7_read_173 : decode cX7_read 173 = .ok (.iconst 0, 1) := by decide +kernel
theorem dX7_read_174 : decode cX7_read 174 = .ok (.iconst 2, 1) := by decide +kernel
theorem dX7_read_175 : decode cX7_read 175 = .ok (.aload_n 0, 1) := by decide +kernel
theorem dX7_read_176 : decode cX7_read 176 = .ok (.getfield 187, 3) := by decide +kernel
theorem dX7_read_179 : decode cX7_read 179 = .ok (.iconst 1, 1) := by decide +kernel
theorem dX7_read_180 : decode cX7_read 180 = .ok (.isub, 1) := by decide +kernel
theorem dX7_read_181 : decode cX7_read 181 = .ok (.aload_n 0, 1) := by decide +kernel
theorem dX7_read_182 : decode cX7_read 182 = .ok (.getfield 199, 3) := by decide +kernel
theorem dX7_read_185 : decode cX7_read 185 = .ok (.ifCond .le 10, 3) := by decide +kernel
theorem dX7_read_188 : decode cX7_read 188 = .ok (.aload_n 0, 1) := by decide +kernel
theorem dX7_read_189 : decode cX7_read 189 = .ok (.getfield 199, 3) := by decide +kernel
theorem dX7_read_192 : decode cX7_read 192 = .ok (.goto 7, 3) := by decide +kernel
theorem dX7_read_195 : decode cX7_read 195 = .ok (.aload_n 0, 1) := by decide +kernel
theorem dX7_read_196 : decode cX7_read 196 = .ok (.getfield 196, 3) := by decide +kernel
theorem dX7_read_199 : decode cX7_read 199 = .ok (.invokevirtual 230, 3) := by decide +kernel
theorem dX7_read_202 : decode cX7_read 202 = .ok (.putfield 260, 3) := by decide +kernel
theorem dX7_read_205 : decode cX7_read 205 = .ok (.aload_n 0, 1) := by decide +kernel
theorem dX7_read_206 : decode cX7_read 206 = .ok (.invokevirtual 263, 3) := by decide +kernel
theorem dX7_read_209 : decode cX7_read 209 = .ok (.aload_n 0, 1) := by decide +kernel
theorem dX7_read_210 : decode cX7_read 210 = .ok (.invokevirtual 266, 3) := by decide +kernel
theorem dX7_read_213 : decode cX7_read 213 = .ok (.aload_n 0, 1) := by decide +kernel
theorem dX7_read_214 : decode cX7_read 214 = .ok (.getfield 196, 3) := by decide +kernel
theorem dX7_read_217 : decode cX7_read 217 = .ok (.ireturn, 1) := by decide +kernel
theorem dX7_fault_0 : decode cX7_fault 0 = .ok (.aload_n 0, 1) := by decide +kernel
theorem dX7_fault_1 : decode cX7_fault 1 = .ok (.iconst 0, 1) := by decide +kernel
theorem dX7_fault_2 : decode cX7_fault 2 = .ok (.putfield 102, 3) := by decide +kernel
theorem dX7_fault_5 : decode cX7_fault 5 = .ok (.aload_n 0, 1) := by decide +kernel
theorem dX7_fault_6 : decode cX7_fault 6 = .ok (.getfield 32, 3) := by decide +kernel
theorem dX7_fault_9 : decode cX7_fault 9 = .ok (.ireturn, 1) := by decide +kernel
theorem dX7_write_0 : decode cX7_write 0 = .ok (.aload_n 0, 1) := by decide +kernel
theorem dX7_write_1 : decode cX7_write 1 = .ok (.getfield 269, 3) := by decide +kernel
theorem dX7_write_4 : decode cX7_write 4 = .ok (.ifCond .eq 26, 3) := by decide +kernel
theorem dX7_write_7 : decode cX7_write 7 = .ok (.aload_n 0, 1) := by decide +kernel
theorem dX7_write_8 : decode cX7_write 8 = .ok (.getfield 99, 3) := by decide +kernel
theorem dX7_write_11 : decode cX7_write 11 = .ok (.aload_n 0, 1) := by decide +kernel
theorem dX7_write_12 : decode cX7_write 12 = .ok (.getfield 272, 3) := by decide +kernel
theorem dX7_write_15 : decode cX7_write 15 = .ok (.iload_n 1, 1) := by decide +kernel
theorem dX7_write_16 : decode cX7_write 16 = .ok (.iastore, 1) := by decide +kernel
theorem dX7_write_17 : decode cX7_write 17 = .ok (.aload_n 0, 1) := by decide +kernel
theorem dX7_write_18 : decode cX7_write 18 = .ok (.dup, 1) := by decide +kernel
theorem dX7_write_19 : decode cX7_write 19 = .ok (.getfield 272, 3) := by decide +kernel
theorem dX7_write_22 : decode cX7_write 22 = .ok (.iconst 1, 1) := by decide +kernel
theorem dX7_write_23 : decode cX7_write 23 = .ok (.iadd, 1) := by decide +kernel
theorem dX7_write_24 : decode cX7_write 24 = .ok (.putfield 272, 3) := by decide +kernel
theorem dX7_write_27 : decode cX7_write 27 = .ok (.goto 23, 3) := by decide +kernel
theorem dX7_write_30 : decode cX7_write 30 = .ok (.aload_n 0, 1) := by decide +kernel
theorem dX7_write_31 : decode cX7_write 31 = .ok (.getfield 96, 3) := by decide +kernel
theorem dX7_write_34 : decode cX7_write 34 = .ok (.aload_n 0, 1) := by decide +kernel
theorem dX7_write_35 : decode cX7_write 35 = .ok (.getfield 275, 3) := by decide +kernel
theorem dX7_write_38 : decode cX7_write 38 = .ok (.iload_n 1, 1) := by decide +kernel
theorem dX7_write_39 : decode cX7_write 39 = .ok (.iastore, 1) := by decide +kernel
theorem dX7_write_40 : decode cX7_write 40 = .ok (.aload_n 0, 1) := by decide +kernel
theorem dX7_write_41 : decode cX7_write 41 = .ok (.dup, 1) := by decide +kernel
theorem dX7_write_42 : decode cX7_write 42 = .ok (.getfield 275, 3) := by decide +kernel
theorem dX7_write_45 : decode cX7_write 45 = .ok (.iconst 1, 1) := by decide +kernel
theorem dX7_write_46 : decode cX7_write 46 = .ok (.iadd, 1) := by decide +kernel
theorem dX7_write_47 : decode cX7_write 47 = .ok (.putfield 275, 3) := by decide +kernel
theorem dX7_write_50 : decode cX7_write 50 = .ok (.return_, 1) := by decide +kernel
theorem dX7_writeComponent_0 : decode cX7_writeComponent 0 = .ok (.aload_n 0, 1) := by decide +kernel
theorem dX7_writeComponent_1 : decode cX7_writeComponent 1 = .ok (.iload_n 1, 1) := by decide +kernel
theorem dX7_writeComponent_2 : decode cX7_writeComponent 2 = .ok (.invokevirtual 202, 3) := by decide +kernel
theorem dX7_writeComponent_5 : decode cX7_writeComponent 5 = .ok (.istore_n 2, 1) := by decide +kernel
theorem dX7_writeComponent_6 : decode cX7_writeComponent 6 = .ok (.iconst 0, 1) := by decide +kernel
theorem dX7_writeComponent_7 : decode cX7_writeComponent 7 = .ok (.istore_n 3, 1) := by decide +kernel
theorem dX7_writeComponent_8 : decode cX7_writeComponent 8 = .ok (.iload_n 3, 1) := by decide +kernel
theorem dX7_writeComponent_9 : decode cX7_writeComponent 9 = .ok (.iload_n 2, 1) := by decide +kernel
theorem dX7_writeComponent_10 : decode cX7_writeComponent 10 = .ok (.if_icmp .ge 64, 3) := by decide +kernel
theorem dX7_writeComponent_13 : decode cX7_writeComponent 13 = .ok (.aload_n 0, 1) := by decide +kernel
theorem dX7_writeComponent_14 : decode cX7_writeComponent 14 = .ok (.getfield 63, 3) := by decide +kernel
theorem dX7_writeComponent_17 : decode cX7_writeComponent 17 = .ok (.aload_n 0, 1) := by decide +kernel
theorem dX7_writeComponent_18 : decode cX7_writeComponent 18 = .ok (.getfield 60, 3) := by decide +kernel
theorem dX7_writeComponent_21 : decode cX7_writeComponent 21 = .ok (.iload_n 1, 1) := by decide +kernel
theorem dX7_writeComponent_22 : decode cX7_writeComponent 22 = .ok (.iaload, 1) := by decide +kernel
theorem dX7_writeComponent_23 : decode cX7_writeComponent 23 = .ok (.iload_n 3, 1) := by decide +kernel
theorem dX7_writeComponent_24 : decode cX7_writeComponent 24 = .ok (.iadd, 1) := by decide +kernel
theorem dX7_writeComponent_25 : decode cX7_writeComponent 25 = .ok (.iaload, 1) := by decide +kernel
theorem dX7_writeComponent_26 : decode cX7_writeComponent 26 = .ok (.istore 4, 2) := by decide +kernel
theorem dX7_writeComponent_28 : decode cX7_writeComponent 28 = .ok (.iload 4, 2) := by decide +kernel
theorem dX7_writeComponent_30 : decode cX7_writeComponent 30 = .ok (.bipush 58, 2) := by decide +kernel
theorem dX7_writeComponent_32 : decode cX7_writeComponent 32 = .ok (.if_icmp .eq 24, 3) := by decide +kernel
theorem dX7_writeComponent_35 : decode cX7_writeComponent 35 = .ok (.iload 4, 2) := by decide +kernel
theorem dX7_writeComponent_37 : decode cX7_writeComponent 37 = .ok (.bipush 43, 2) := by decide +kernel
theorem dX7_writeComponent_39 : decode cX7_writeComponent 39 = .ok (.if_icmp .eq 17, 3) := by decide +kernel
theorem dX7_writeComponent_42 : decode cX7_writeComponent 42 = .ok (.iload 4, 2) := by decide +kernel
theorem dX7_writeComponent_44 : decode cX7_writeComponent 44 = .ok (.bipush 63, 2) := by decide +kernel
theorem dX7_writeComponent_46 : decode cX7_writeComponent 46 = .ok (.if_icmp .eq 10, 3) := by decide +kernel
theorem dX7_writeComponent_49 : decode cX7_writeComponent 49 = .ok (.iload 4, 2) := by decide +kernel
theorem dX7_writeComponent_51 : decode cX7_writeComponent 51 = .ok (.bipush 39, 2) := by decide +kernel
theorem dX7_writeComponent_53 : decode cX7_writeComponent 53 = .ok (.if_icmp .ne 9, 3) := by decide +kernel
theorem dX7_writeComponent_56 : decode cX7_writeComponent 56 = .ok (.aload_n 0, 1) := by decide +kernel
theorem dX7_writeComponent_57 : decode cX7_writeComponent 57 = .ok (.bipush 63, 2) := by decide +kernel
theorem dX7_writeComponent_59 : decode cX7_writeComponent 59 = .ok (.invokevirtual 278, 3) := by decide +kernel
theorem dX7_writeComponent_62 : decode cX7_writeComponent 62 = .ok (.aload_n 0, 1) := by decide +kernel
theorem dX7_writeComponent_63 : decode cX7_writeComponent 63 = .ok (.iload 4, 2) := by decide +kernel
theorem dX7_writeComponent_65 : decode cX7_writeComponent 65 = .ok (.invokevirtual 278, 3) := by decide +kernel
theorem dX7_writeComponent_68 : decode cX7_writeComponent 68 = .ok (.iinc 3 1, 3) := by decide +kernel
theorem dX7_writeComponent_71 : decode cX7_writeComponent 71 = .ok (.goto (-63), 3) := by decide +kernel
theorem dX7_writeComponent_74 : decode cX7_writeComponent 74 = .ok (.return_, 1) := by decide +kernel
theorem dX7_writeNumber_0 : decode cX7_writeNumber 0 = .ok (.iload_n 1, 1) := by decide +kernel
theorem dX7_writeNumber_1 : decode cX7_writeNumber 1 = .ok (.bipush 99, 2) := by decide +kernel
theorem dX7_writeNumber_3 : decode cX7_writeNumber 3 = .ok (.if_icmp .le 8, 3) := by decide +kernel
theorem dX7_writeNumber_6 : decode cX7_writeNumber 6 = .ok (.bipush 100, 2) := by decide +kernel
theorem dX7_writeNumber_8 : decode cX7_writeNumber 8 = .ok (.goto 15, 3) := by decide +kernel
theorem dX7_writeNumber_11 : decode cX7_writeNumber 11 = .ok (.iload_n 1, 1) := by decide +kernel
theorem dX7_writeNumber_12 : decode cX7_writeNumber 12 = .ok (.bipush 9, 2) := by decide +kernel
theorem dX7_writeNumber_14 : decode cX7_writeNumber 14 = .ok (.if_icmp .le 8, 3) := by decide +kernel
theorem dX7_writeNumber_17 : decode cX7_writeNumber 17 = .ok (.bipush 10, 2) := by decide +kernel
theorem dX7_writeNumber_19 : decode cX7_writeNumber 19 = .ok (.goto 4, 3) := by decide +kernel
theorem dX7_writeNumber_22 : decode cX7_writeNumber 22 = .ok (.iconst 1, 1) := by decide +kernel
theorem dX7_writeNumber_23 : decode cX7_writeNumber 23 = .ok (.istore_n 2, 1) := by decide +kernel
theorem dX7_writeNumber_24 : decode cX7_writeNumber 24 = .ok (.iload_n 2, 1) := by decide +kernel
theorem dX7_writeNumber_25 : decode cX7_writeNumber 25 = .ok (.ifCond .le 24, 3) := by decide +kernel
theorem dX7_writeNumber_28 : decode cX7_writeNumber 28 = .ok (.aload_n 0, 1) := by decide +kernel
theorem dX7_writeNumber_29 : decode cX7_writeNumber 29 = .ok (.bipush 48, 2) := by decide +kernel
theorem dX7_writeNumber_31 : decode cX7_writeNumber 31 = .ok (.iload_n 1, 1) := by decide +kernel
theorem dX7_writeNumber_32 : decode cX7_writeNumber 32 = .ok (.iload_n 2, 1) := by decide +kernel
theorem dX7_writeNumber_33 : decode cX7_writeNumber 33 = .ok (.idiv, 1) := by decide +kernel
theorem dX7_writeNumber_34 : decode cX7_writeNumber 34 = .ok (.bipush 10, 2) := by decide +kernel
theorem dX7_writeNumber_36 : decode cX7_writeNumber 36 = .ok (.irem, 1) := by decide +kernel
theorem dX7_writeNumber_37 : decode cX7_writeNumber 37 = .ok (.iadd, 1) := by decide +kernel
theorem dX7_writeNumber_38 : decode cX7_writeNumber 38 = .ok (.invokevirtual 278, 3) := by decide +kernel
theorem dX7_writeNumber_41 : decode cX7_writeNumber 41 = .ok (.iload_n 2, 1) := by decide +kernel
theorem dX7_writeNumber_42 : decode cX7_writeNumber 42 = .ok (.bipush 10, 2) := by decide +kernel
theorem dX7_writeNumber_44 : decode cX7_writeNumber 44 = .ok (.idiv, 1) := by decide +kernel
theorem dX7_writeNumber_45 : decode cX7_writeNumber 45 = .ok (.istore_n 2, 1) := by decide +kernel
theorem dX7_writeNumber_46 : decode cX7_writeNumber 46 = .ok (.goto (-22), 3) := by decide +kernel
theorem dX7_writeNumber_49 : decode cX7_writeNumber 49 = .ok (.return_, 1) := by decide +kernel
theorem dX7_writeTag_0 : decode cX7_writeTag 0 = .ok (.aload_n 0, 1) := by decide +kernel
theorem dX7_writeTag_1 : decode cX7_writeTag 1 = .ok (.iload_n 1, 1) := by decide +kernel
theorem dX7_writeTag_2 : decode cX7_writeTag 2 = .ok (.bipush 16, 2) := by decide +kernel
theorem dX7_writeTag_4 : decode cX7_writeTag 4 = .ok (.ishr, 1) := by decide +kernel
theorem dX7_writeTag_5 : decode cX7_writeTag 5 = .ok (.invokevirtual 278, 3) := by decide +kernel
theorem dX7_writeTag_8 : decode cX7_writeTag 8 = .ok (.aload_n 0, 1) := by decide +kernel
theorem dX7_writeTag_9 : decode cX7_writeTag 9 = .ok (.iload_n 1, 1) := by decide +kernel
theorem dX7_writeTag_10 : decode cX7_writeTag 10 = .ok (.bipush 8, 2) := by decide +kernel
theorem dX7_writeTag_12 : decode cX7_writeTag 12 = .ok (.ishr, 1) := by decide +kernel
theorem dX7_writeTag_13 : decode cX7_writeTag 13 = .ok (.sipush 255, 3) := by decide +kernel
theorem dX7_writeTag_16 : decode cX7_writeTag 16 = .ok (.iand, 1) := by decide +kernel
theorem dX7_writeTag_17 : decode cX7_writeTag 17 = .ok (.invokevirtual 278, 3) := by decide +kernel
theorem dX7_writeTag_20 : decode cX7_writeTag 20 = .ok (.aload_n 0, 1) := by decide +kernel
theorem dX7_writeTag_21 : decode cX7_writeTag 21 = .ok (.iload_n 1, 1) := by decide +kernel
theorem dX7_writeTag_22 : decode cX7_writeTag 22 = .ok (.sipush 255, 3) := by decide +kernel
theorem dX7_writeTag_25 : decode cX7_writeTag 25 = .ok (.iand, 1) := by decide +kernel
theorem dX7_writeTag_26 : decode cX7_writeTag 26 = .ok (.invokevirtual 278, 3) := by decide +kernel
theorem dX7_writeTag_29 : decode cX7_writeTag 29 = .ok (.return_, 1) := by decide +kernel
theorem dX7_kept_0 : decode cX7_kept 0 = .ok (.aload_n 0, 1) := by decide +kernel
theorem dX7_kept_1 : decode cX7_kept 1 = .ok (.getfield 57, 3) := by decide +kernel
theorem dX7_kept_4 : decode cX7_kept 4 = .ok (.iload_n 1, 1) := by decide +kernel
theorem dX7_kept_5 : decode cX7_kept 5 = .ok (.iconst 1, 1) := by decide +kernel
theorem dX7_kept_6 : decode cX7_kept 6 = .ok (.iadd, 1) := by decide +kernel
theorem dX7_kept_7 : decode cX7_kept 7 = .ok (.iaload, 1) := by decide +kernel
theorem dX7_kept_8 : decode cX7_kept 8 = .ok (.aload_n 0, 1) := by decide +kernel
theorem dX7_kept_9 : decode cX7_kept 9 = .ok (.getfield 57, 3) := by decide +kernel
theorem dX7_kept_12 : decode cX7_kept 12 = .ok (.iload_n 1, 1) := by decide +kernel
theorem dX7_kept_13 : decode cX7_kept 13 = .ok (.iaload, 1) := by decide +kernel
theorem dX7_kept_14 : decode cX7_kept 14 = .ok (.isub, 1) := by decide +kernel
theorem dX7_kept_15 : decode cX7_kept 15 = .ok (.istore_n 2, 1) := by decide +kernel
theorem dX7_kept_16 : decode cX7_kept 16 = .ok (.iload_n 2, 1) := by decide +kernel
theorem dX7_kept_17 : decode cX7_kept 17 = .ok (.ifCond .le 26, 3) := by decide +kernel
theorem dX7_kept_20 : decode cX7_kept 20 = .ok (.aload_n 0, 1) := by decide +kernel
theorem dX7_kept_21 : decode cX7_kept 21 = .ok (.aload_n 0, 1) := by decide +kernel
theorem dX7_kept_22 : decode cX7_kept 22 = .ok (.getfield 57, 3) := by decide +kernel
theorem dX7_kept_25 : decode cX7_kept 25 = .ok (.iload_n 1, 1) := by decide +kernel
theorem dX7_kept_26 : decode cX7_kept 26 = .ok (.iaload, 1) := by decide +kernel
theorem dX7_kept_27 : decode cX7_kept 27 = .ok (.iload_n 2, 1) := by decide +kernel
theorem dX7_kept_28 : decode cX7_kept 28 = .ok (.iadd, 1) := by decide +kernel
theorem dX7_kept_29 : decode cX7_kept 29 = .ok (.iconst 1, 1) := by decide +kernel
theorem dX7_kept_30 : decode cX7_kept 30 = .ok (.isub, 1) := by decide +kernel
theorem dX7_kept_31 : decode cX7_kept 31 = .ok (.invokevirtual 202, 3) := by decide +kernel
theorem dX7_kept_34 : decode cX7_kept 34 = .ok (.ifCond .ne 9, 3) := by decide +kernel
theorem dX7_kept_37 : decode cX7_kept 37 = .ok (.iinc 2 (-1), 3) := by decide +kernel
theorem dX7_kept_40 : decode cX7_kept 40 = .ok (.goto (-24), 3) := by decide +kernel
theorem dX7_kept_43 : decode cX7_kept 43 = .ok (.iload_n 2, 1) := by decide +kernel
theorem dX7_kept_44 : decode cX7_kept 44 = .ok (.ireturn, 1) := by decide +kernel
theorem dX7_writePrint_0 : decode cX7_writePrint 0 = .ok (.aload_n 0, 1) := by decide +kernel
theorem dX7_writePrint_1 : decode cX7_writePrint 1 = .ok (.iconst 0, 1) := by decide +kernel
theorem dX7_writePrint_2 : decode cX7_writePrint 2 = .ok (.putfield 269, 3) := by decide +kernel
theorem dX7_writePrint_5 : decode cX7_writePrint 5 = .ok (.aload_n 0, 1) := by decide +kernel
theorem dX7_writePrint_6 : decode cX7_writePrint 6 = .ok (.iconst 0, 1) := by decide +kernel
theorem dX7_writePrint_7 : decode cX7_writePrint 7 = .ok (.putfield 275, 3) := by decide +kernel
theorem dX7_writePrint_10 : decode cX7_writePrint 10 = .ok (.iconst 0, 1) := by decide +kernel
theorem dX7_writePrint_11 : decode cX7_writePrint 11 = .ok (.istore_n 1, 1) := by decide +kernel
theorem dX7_writePrint_12 : decode cX7_writePrint 12 = .ok (.iload_n 1, 1) := by decide +kernel
theorem dX7_writePrint_13 : decode cX7_writePrint 13 = .ok (.aload_n 0, 1) := by decide +kernel
theorem dX7_writePrint_14 : decode cX7_writePrint 14 = .ok (.getfield 187, 3) := by decide +kernel
theorem dX7_writePrint_17 : decode cX7_writePrint 17 = .ok (.if_icmp .ge 131, 3) := by decide +kernel
theorem dX7_writePrint_20 : decode cX7_writePrint 20 = .ok (.aload_n 0, 1) := by decide +kernel
theorem dX7_writePrint_21 : decode cX7_writePrint 21 = .ok (.aload_n 0, 1) := by decide +kernel
theorem dX7_writePrint_22 : decode cX7_writePrint 22 = .ok (.getfield 51, 3) := by decide +kernel
theorem dX7_writePrint_25 : decode cX7_writePrint 25 = .ok (.iload_n 1, 1) := by decide +kernel
theorem dX7_writePrint_26 : decode cX7_writePrint 26 = .ok (.iaload, 1) := by decide +kernel
theorem dX7_writePrint_27 : decode cX7_writePrint 27 = .ok (.invokevirtual 281, 3) := by decide +kernel
theorem dX7_writePrint_30 : decode cX7_writePrint 30 = .ok (.aload_n 0, 1) := by decide +kernel
theorem dX7_writePrint_31 : decode cX7_writePrint 31 = .ok (.getfield 54, 3) := by decide +kernel
theorem dX7_writePrint_34 : decode cX7_writePrint 34 = .ok (.iload_n 1, 1) := by decide +kernel
theorem dX7_writePrint_35 : decode cX7_writePrint 35 = .ok (.iconst 1, 1) := by decide +kernel
theorem dX7_writePrint_36 : decode cX7_writePrint 36 = .ok (.iadd, 1) := by decide +kernel
theorem dX7_writePrint_37 : decode cX7_writePrint 37 = .ok (.iaload, 1) := by decide +kernel
theorem dX7_writePrint_38 : decode cX7_writePrint 38 = .ok (.istore_n 2, 1) := by decide +kernel
theorem dX7_writePrint_39 : decode cX7_writePrint 39 = .ok (.iload_n 2, 1) := by decide +kernel
theorem dX7_writePrint_40 : decode cX7_writePrint 40 = .ok (.aload_n 0, 1) := by decide +kernel
theorem dX7_writePrint_41 : decode cX7_writePrint 41 = .ok (.getfield 54, 3) := by decide +kernel
theorem dX7_writePrint_44 : decode cX7_writePrint 44 = .ok (.iload_n 1, 1) := by decide +kernel
theorem dX7_writePrint_45 : decode cX7_writePrint 45 = .ok (.iaload, 1) := by decide +kernel
theorem dX7_writePrint_46 : decode cX7_writePrint 46 = .ok (.if_icmp .le 19, 3) := by decide +kernel
theorem dX7_writePrint_49 : decode cX7_writePrint 49 = .ok (.aload_n 0, 1) := by decide +kernel
theorem dX7_writePrint_50 : decode cX7_writePrint 50 = .ok (.iload_n 2, 1) := by decide +kernel
theorem dX7_writePrint_51 : decode cX7_writePrint 51 = .ok (.iconst 1, 1) := by decide +kernel
theorem dX7_writePrint_52 : decode cX7_writePrint 52 = .ok (.isub, 1) := by decide +kernel
theorem dX7_writePrint_53 : decode cX7_writePrint 53 = .ok (.invokevirtual 284, 3) := by decide +kernel
theorem dX7_writePrint_56 : decode cX7_writePrint 56 = .ok (.ifCond .ne 9, 3) := by decide +kernel
theorem dX7_writePrint_59 : decode cX7_writePrint 59 = .ok (.iinc 2 (-1), 3) := by decide +kernel
theorem dX7_writePrint_62 : decode cX7_writePrint 62 = .ok (.goto (-23), 3) := by decide +kernel
theorem dX7_writePrint_65 : decode cX7_writePrint 65 = .ok (.aload_n 0, 1) := by decide +kernel
theorem dX7_writePrint_66 : decode cX7_writePrint 66 = .ok (.getfield 54, 3) := by decide +kernel
theorem dX7_writePrint_69 : decode cX7_writePrint 69 = .ok (.iload_n 1, 1) := by decide +kernel
theorem dX7_writePrint_70 : decode cX7_writePrint 70 = .ok (.iaload, 1) := by decide +kernel
theorem dX7_writePrint_71 : decode cX7_writePrint 71 = .ok (.istore_n 3, 1) := by decide +kernel
theorem dX7_writePrint_72 : decode cX7_writePrint 72 = .ok (.iload_n 3, 1) := by decide +kernel
theorem dX7_writePrint_73 : decode cX7_writePrint 73 = .ok (.iload_n 2, 1) := by decide +kernel
theorem dX7_writePrint_74 : decode cX7_writePrint 74 = .ok (.if_icmp .ge 62, 3) := by decide +kernel
theorem dX7_writePrint_77 : decode cX7_writePrint 77 = .ok (.aload_n 0, 1) := by decide +kernel
theorem dX7_writePrint_78 : decode cX7_writePrint 78 = .ok (.bipush 43, 2) := by decide +kernel
theorem dX7_writePrint_80 : decode cX7_writePrint 80 = .ok (.invokevirtual 278, 3) := by decide +kernel
theorem dX7_writePrint_83 : decode cX7_writePrint 83 = .ok (.aload_n 0, 1) := by decide +kernel
theorem dX7_writePrint_84 : decode cX7_writePrint 84 = .ok (.iload_n 3, 1) := by decide +kernel
theorem dX7_writePrint_85 : decode cX7_writePrint 85 = .ok (.invokevirtual 284, 3) := by decide +kernel
theorem dX7_writePrint_88 : decode cX7_writePrint 88 = .ok (.istore 4, 2) := by decide +kernel
theorem dX7_writePrint_90 : decode cX7_writePrint 90 = .ok (.iconst 0, 1) := by decide +kernel
theorem dX7_writePrint_91 : decode cX7_writePrint 91 = .ok (.istore 5, 2) := by decide +kernel
theorem dX7_writePrint_93 : decode cX7_writePrint 93 = .ok (.iload 5, 2) := by decide +kernel
theorem dX7_writePrint_95 : decode cX7_writePrint 95 = .ok (.iload 4, 2) := by decide +kernel
theorem dX7_writePrint_97 : decode cX7_writePrint 97 = .ok (.if_icmp .ge 33, 3) := by decide +kernel
theorem dX7_writePrint_100 : decode cX7_writePrint 100 = .ok (.iload 5, 2) := by decide +kernel
theorem dX7_writePrint_102 : decode cX7_writePrint 102 = .ok (.ifCond .le 9, 3) := by decide +kernel
theorem dX7_writePrint_105 : decode cX7_writePrint 105 = .ok (.aload_n 0, 1) := by decide +kernel
theorem dX7_writePrint_106 : decode cX7_writePrint 106 = .ok (.bipush 58, 2) := by decide +kernel
theorem dX7_writePrint_108 : decode cX7_writePrint 108 = .ok (.invokevirtual 278, 3) := by decide +kernel
theorem dX7_writePrint_111 : decode cX7_writePrint 111 = .ok (.aload_n 0, 1) := by decide +kernel
theorem dX7_writePrint_112 : decode cX7_writePrint 112 = .ok (.aload_n 0, 1) := by decide +kernel
theorem dX7_writePrint_113 : decode cX7_writePrint 113 = .ok (.getfield 57, 3) := by decide +kernel
theorem dX7_writePrint_116 : decode cX7_writePrint 116 = .ok (.iload_n 3, 1) := by decide +kernel
theorem dX7_writePrint_117 : decode cX7_writePrint 117 = .ok (.iaload, 1) := by decide +kernel
theorem dX7_writePrint_118 : decode cX7_writePrint 118 = .ok (.iload 5, 2) := by decide +kernel
theorem dX7_writePrint_120 : decode cX7_writePrint 120 = .ok (.iadd, 1) := by decide +kernel
theorem dX7_writePrint_121 : decode cX7_writePrint 121 = .ok (.invokevirtual 287, 3) := by decide +kernel
theorem dX7_writePrint_124 : decode cX7_writePrint 124 = .ok (.iinc 5 1, 3) := by decide +kernel
theorem dX7_writePrint_127 : decode cX7_writePrint 127 = .ok (.goto (-34), 3) := by decide +kernel
theorem dX7_writePrint_130 : decode cX7_writePrint 130 = .ok (.iinc 3 1, 3) := by decide +kernel
theorem dX7_writePrint_133 : decode cX7_writePrint 133 = .ok (.goto (-61), 3) := by decide +kernel
theorem dX7_writePrint_136 : decode cX7_writePrint 136 = .ok (.aload_n 0, 1) := by decide +kernel
theorem dX7_writePrint_137 : decode cX7_writePrint 137 = .ok (.bipush 39, 2) := by decide +kernel
theorem dX7_writePrint_139 : decode cX7_writePrint 139 = .ok (.invokevirtual 278, 3) := by decide +kernel
theorem dX7_writePrint_142 : decode cX7_writePrint 142 = .ok (.iinc 1 1, 3) := by decide +kernel
theorem dX7_writePrint_145 : decode cX7_writePrint 145 = .ok (.goto (-133), 3) := by decide +kernel
theorem dX7_writePrint_148 : decode cX7_writePrint 148 = .ok (.return_, 1) := by decide +kernel
theorem dX7_writeLine_0 : decode cX7_writeLine 0 = .ok (.aload_n 0, 1) := by decide +kernel
theorem dX7_writeLine_1 : decode cX7_writeLine 1 = .ok (.iload_n 1, 1) := by decide +kernel
theorem dX7_writeLine_2 : decode cX7_writeLine 2 = .ok (.invokevirtual 281, 3) := by decide +kernel
theorem dX7_writeLine_5 : decode cX7_writeLine 5 = .ok (.aload_n 0, 1) := by decide +kernel
theorem dX7_writeLine_6 : decode cX7_writeLine 6 = .ok (.bipush 43, 2) := by decide +kernel
theorem dX7_writeLine_8 : decode cX7_writeLine 8 = .ok (.invokevirtual 278, 3) := by decide +kernel
theorem dX7_writeLine_11 : decode cX7_writeLine 11 = .ok (.aload_n 0, 1) := by decide +kernel
theorem dX7_writeLine_12 : decode cX7_writeLine 12 = .ok (.iload_n 2, 1) := by decide +kernel
theorem dX7_writeLine_13 : decode cX7_writeLine 13 = .ok (.invokevirtual 287, 3) := by decide +kernel
theorem dX7_writeLine_16 : decode cX7_writeLine 16 = .ok (.aload_n 0, 1) := by decide +kernel
theorem dX7_writeLine_17 : decode cX7_writeLine 17 = .ok (.bipush 43, 2) := by decide +kernel
theorem dX7_writeLine_19 : decode cX7_writeLine 19 = .ok (.invokevirtual 278, 3) := by decide +kernel
theorem dX7_writeLine_22 : decode cX7_writeLine 22 = .ok (.aload_n 0, 1) := by decide +kernel
theorem dX7_writeLine_23 : decode cX7_writeLine 23 = .ok (.iload_n 3, 1) := by decide +kernel
theorem dX7_writeLine_24 : decode cX7_writeLine 24 = .ok (.invokevirtual 290, 3) := by decide +kernel
theorem dX7_writeLine_27 : decode cX7_writeLine 27 = .ok (.iload 4, 2) := by decide +kernel
theorem dX7_writeLine_29 : decode cX7_writeLine 29 = .ok (.ifCond .lt 15, 3) := by decide +kernel
theorem dX7_writeLine_32 : decode cX7_writeLine 32 = .ok (.aload_n 0, 1) := by decide +kernel
theorem dX7_writeLine_33 : decode cX7_writeLine 33 = .ok (.bipush 43, 2) := by decide +kernel
theorem dX7_writeLine_35 : decode cX7_writeLine 35 = .ok (.invokevirtual 278, 3) := by decide +kernel
theorem dX7_writeLine_38 : decode cX7_writeLine 38 = .ok (.aload_n 0, 1) := by decide +kernel
theorem dX7_writeLine_39 : decode cX7_writeLine 39 = .ok (.iload 4, 2) := by decide +kernel
theorem dX7_writeLine_41 : decode cX7_writeLine 41 = .ok (.invokevirtual 290, 3) := by decide +kernel
theorem dX7_writeLine_44 : decode cX7_writeLine 44 = .ok (.aload_n 0, 1) := by decide +kernel
theorem dX7_writeLine_45 : decode cX7_writeLine 45 = .ok (.bipush 39, 2) := by decide +kernel
theorem dX7_writeLine_47 : decode cX7_writeLine 47 = .ok (.invokevirtual 278, 3) := by decide +kernel
theorem dX7_writeLine_50 : decode cX7_writeLine 50 = .ok (.return_, 1) := by decide +kernel
theorem dX7_writeReport_0 : decode cX7_writeReport 0 = .ok (.aload_n 0, 1) := by decide +kernel
theorem dX7_writeReport_1 : decode cX7_writeReport 1 = .ok (.iconst 1, 1) := by decide +kernel
theorem dX7_writeReport_2 : decode cX7_writeReport 2 = .ok (.putfield 269, 3) := by decide +kernel
theorem dX7_writeReport_5 : decode cX7_writeReport 5 = .ok (.aload_n 0, 1) := by decide +kernel
theorem dX7_writeReport_6 : decode cX7_writeReport 6 = .ok (.iconst 0, 1) := by decide +kernel
theorem dX7_writeReport_7 : decode cX7_writeReport 7 = .ok (.putfield 272, 3) := by decide +kernel
theorem dX7_writeReport_10 : decode cX7_writeReport 10 = .ok (.aload_n 0, 1) := by decide +kernel
theorem dX7_writeReport_11 : decode cX7_writeReport 11 = .ok (.ldc_w 293, 3) := by decide +kernel
theorem dX7_writeReport_14 : decode cX7_writeReport 14 = .ok (.aload_n 0, 1) := by decide +kernel
theorem dX7_writeReport_15 : decode cX7_writeReport 15 = .ok (.iconst 0, 1) := by decide +kernel
theorem dX7_writeReport_16 : decode cX7_writeReport 16 = .ok (.iconst 2, 1) := by decide +kernel
theorem dX7_writeReport_17 : decode cX7_writeReport 17 = .ok (.invokevirtual 205, 3) := by decide +kernel
theorem dX7_writeReport_20 : decode cX7_writeReport 20 = .ok (.aload_n 0, 1) := by decide +kernel
theorem dX7_writeReport_21 : decode cX7_writeReport 21 = .ok (.getfield 260, 3) := by decide +kernel
theorem dX7_writeReport_24 : decode cX7_writeReport 24 = .ok (.iconst (-1), 1) := by decide +kernel
theorem dX7_writeReport_25 : decode cX7_writeReport 25 = .ok (.invokevirtual 294, 3) := by decide +kernel
theorem dX7_writeReport_28 : decode cX7_writeReport 28 = .ok (.iconst (-1), 1) := by decide +kernel
theorem dX7_writeReport_29 : decode cX7_writeReport 29 = .ok (.istore_n 1, 1) := by decide +kernel
theorem dX7_writeReport_30 : decode cX7_writeReport 30 = .ok (.iconst 0, 1) := by decide +kernel
theorem dX7_writeReport_31 : decode cX7_writeReport 31 = .ok (.istore_n 2, 1) := by decide +kernel
theorem dX7_writeReport_32 : decode cX7_writeReport 32 = .ok (.iload_n 2, 1) := by decide +kernel
theorem dX7_writeReport_33 : decode cX7_writeReport 33 = .ok (.aload_n 0, 1) := by decide +kernel
theorem dX7_writeReport_34 : decode cX7_writeReport 34 = .ok (.getfield 196, 3) := by decide +kernel
theorem dX7_writeReport_37 : decode cX7_writeReport 37 = .ok (.if_icmp .ge 94, 3) := by decide +kernel
theorem dX7_writeReport_40 : decode cX7_writeReport 40 = .ok (.aload_n 0, 1) := by decide +kernel
theorem dX7_writeReport_41 : decode cX7_writeReport 41 = .ok (.getfield 72, 3) := by decide +kernel
theorem dX7_writeReport_44 : decode cX7_writeReport 44 = .ok (.iload_n 2, 1) := by decide +kernel
theorem dX7_writeReport_45 : decode cX7_writeReport 45 = .ok (.iaload, 1) := by decide +kernel
theorem dX7_writeReport_46 : decode cX7_writeReport 46 = .ok (.iload_n 1, 1) := by decide +kernel
theorem dX7_writeReport_47 : decode cX7_writeReport 47 = .ok (.if_icmp .le 35, 3) := by decide +kernel
theorem dX7_writeReport_50 : decode cX7_writeReport 50 = .ok (.aload_n 0, 1) := by decide +kernel
theorem dX7_writeReport_51 : decode cX7_writeReport 51 = .ok (.getfield 72, 3) := by decide +kernel
theorem dX7_writeReport_54 : decode cX7_writeReport 54 = .ok (.iload_n 2, 1) := by decide +kernel
theorem dX7_writeReport_55 : decode cX7_writeReport 55 = .ok (.iaload, 1) := by decide +kernel
theorem dX7_writeReport_56 : decode cX7_writeReport 56 = .ok (.istore_n 1, 1) := by decide +kernel
theorem dX7_writeReport_57 : decode cX7_writeReport 57 = .ok (.aload_n 0, 1) := by decide +kernel
theorem dX7_writeReport_58 : decode cX7_writeReport 58 = .ok (.ldc_w 298, 3) := by decide +kernel
theorem dX7_writeReport_61 : decode cX7_writeReport 61 = .ok (.aload_n 0, 1) := by decide +kernel
theorem dX7_writeReport_62 : decode cX7_writeReport 62 = .ok (.aload_n 0, 1) := by decide +kernel
theorem dX7_writeReport_63 : decode cX7_writeReport 63 = .ok (.getfield 81, 3) := by decide +kernel
theorem dX7_writeReport_66 : decode cX7_writeReport 66 = .ok (.iload_n 1, 1) := by decide +kernel
theorem dX7_writeReport_67 : decode cX7_writeReport 67 = .ok (.iaload, 1) := by decide +kernel
theorem dX7_writeReport_68 : decode cX7_writeReport 68 = .ok (.iconst 0, 1) := by decide +kernel
theorem dX7_writeReport_69 : decode cX7_writeReport 69 = .ok (.invokevirtual 205, 3) := by decide +kernel
theorem dX7_writeReport_72 : decode cX7_writeReport 72 = .ok (.aload_n 0, 1) := by decide +kernel
theorem dX7_writeReport_73 : decode cX7_writeReport 73 = .ok (.getfield 87, 3) := by decide +kernel
theorem dX7_writeReport_76 : decode cX7_writeReport 76 = .ok (.iload_n 1, 1) := by decide +kernel
theorem dX7_writeReport_77 : decode cX7_writeReport 77 = .ok (.iaload, 1) := by decide +kernel
theorem dX7_writeReport_78 : decode cX7_writeReport 78 = .ok (.iconst (-1), 1) := by decide +kernel
theorem dX7_writeReport_79 : decode cX7_writeReport 79 = .ok (.invokevirtual 294, 3) := by decide +kernel
theorem dX7_writeReport_82 : decode cX7_writeReport 82 = .ok (.aload_n 0, 1) := by decide +kernel
theorem dX7_writeReport_83 : decode cX7_writeReport 83 = .ok (.ldc_w 299, 3) := by decide +kernel
theorem dX7_writeReport_86 : decode cX7_writeReport 86 = .ok (.aload_n 0, 1) := by decide +kernel
theorem dX7_writeReport_87 : decode cX7_writeReport 87 = .ok (.aload_n 0, 1) := by decide +kernel
theorem dX7_writeReport_88 : decode cX7_writeReport 88 = .ok (.getfield 66, 3) := by decide +kernel
theorem dX7_writeReport_91 : decode cX7_writeReport 91 = .ok (.iload_n 2, 1) := by decide +kernel
theorem dX7_writeReport_92 : decode cX7_writeReport 92 = .ok (.iaload, 1) := by decide +kernel
theorem dX7_writeReport_93 : decode cX7_writeReport 93 = .ok (.iconst 0, 1) := by decide +kernel
theorem dX7_writeReport_94 : decode cX7_writeReport 94 = .ok (.invokevirtual 205, 3) := by decide +kernel
theorem dX7_writeReport_97 : decode cX7_writeReport 97 = .ok (.aload_n 0, 1) := by decide +kernel
theorem dX7_writeReport_98 : decode cX7_writeReport 98 = .ok (.getfield 75, 3) := by decide +kernel
theorem dX7_writeReport_101 : decode cX7_writeReport 101 = .ok (.iload_n 2, 1) := by decide +kernel
theorem dX7_writeReport_102 : decode cX7_writeReport 102 = .ok (.iaload, 1) := by decide +kernel
theorem dX7_writeReport_103 : decode cX7_writeReport 103 = .ok (.aload_n 0, 1) := by decide +kernel
theorem dX7_writeReport_104 : decode cX7_writeReport 104 = .ok (.getfield 75, 3) := by decide +kernel
theorem dX7_writeReport_107 : decode cX7_writeReport 107 = .ok (.iload_n 2, 1) := by decide +kernel
theorem dX7_writeReport_108 : decode cX7_writeReport 108 = .ok (.iaload, 1) := by decide +kernel
theorem dX7_writeReport_109 : decode cX7_writeReport 109 = .ok (.ifCond .le 12, 3) := by decide +kernel
theorem dX7_writeReport_112 : decode cX7_writeReport 112 = .ok (.aload_n 0, 1) := by decide +kernel
theorem dX7_writeReport_113 : decode cX7_writeReport 113 = .ok (.getfield 78, 3) := by decide +kernel
theorem dX7_writeReport_116 : decode cX7_writeReport 116 = .ok (.iload_n 2, 1) := by decide +kernel
theorem dX7_writeReport_117 : decode cX7_writeReport 117 = .ok (.iaload, 1) := by decide +kernel
theorem dX7_writeReport_118 : decode cX7_writeReport 118 = .ok (.goto 4, 3) := by decide +kernel
theorem dX7_writeReport_121 : decode cX7_writeReport 121 = .ok (.iconst (-1), 1) := by decide +kernel
theorem dX7_writeReport_122 : decode cX7_writeReport 122 = .ok (.invokevirtual 294, 3) := by decide +kernel
theorem dX7_writeReport_125 : decode cX7_writeReport 125 = .ok (.iinc 2 1, 3) := by decide +kernel
theorem dX7_writeReport_128 : decode cX7_writeReport 128 = .ok (.goto (-96), 3) := by decide +kernel
theorem dX7_writeReport_131 : decode cX7_writeReport 131 = .ok (.return_, 1) := by decide +kernel
theorem dX7_interchange_0 : decode cX7_interchange 0 = .ok (.aload_n 0, 1) := by decide +kernel
theorem dX7_interchange_1 : decode cX7_interchange 1 = .ok (.aload_n 0, 1) := by decide +kernel
theorem dX7_interchange_2 : decode cX7_interchange 2 = .ok (.getfield 253, 3) := by decide +kernel
theorem dX7_interchange_5 : decode cX7_interchange 5 = .ok (.ifCond .eq 7, 3) := by decide +kernel
theorem dX7_interchange_8 : decode cX7_interchange 8 = .ok (.iconst 0, 1) := by decide +kernel
theorem dX7_interchange_9 : decode cX7_interchange 9 = .ok (.goto 4, 3) := by decide +kernel
theorem dX7_interchange_12 : decode cX7_interchange 12 = .ok (.iconst 1, 1) := by decide +kernel
theorem dX7_interchange_13 : decode cX7_interchange 13 = .ok (.putfield 102, 3) := by decide +kernel
theorem dX7_interchange_16 : decode cX7_interchange 16 = .ok (.aload_n 0, 1) := by decide +kernel
theorem dX7_interchange_17 : decode cX7_interchange 17 = .ok (.getfield 253, 3) := by decide +kernel
theorem dX7_interchange_20 : decode cX7_interchange 20 = .ok (.ifCond .ne 5, 3) := by decide +kernel
theorem dX7_interchange_23 : decode cX7_interchange 23 = .ok (.iconst 0, 1) := by decide +kernel
theorem dX7_interchange_24 : decode cX7_interchange 24 = .ok (.ireturn, 1) := by decide +kernel
theorem dX7_interchange_25 : decode cX7_interchange 25 = .ok (.iload_n 1, 1) := by decide +kernel
theorem dX7_interchange_26 : decode cX7_interchange 26 = .ok (.ifCond .ne 10, 3) := by decide +kernel
theorem dX7_interchange_29 : decode cX7_interchange 29 = .ok (.aload_n 0, 1) := by decide +kernel
theorem dX7_interchange_30 : decode cX7_interchange 30 = .ok (.getfield 187, 3) := by decide +kernel
theorem dX7_interchange_33 : decode cX7_interchange 33 = .ok (.goto 40, 3) := by decide +kernel
theorem dX7_interchange_36 : decode cX7_interchange 36 = .ok (.iload_n 1, 1) := by decide +kernel
theorem dX7_interchange_37 : decode cX7_interchange 37 = .ok (.iconst 1, 1) := by decide +kernel
theorem dX7_interchange_38 : decode cX7_interchange 38 = .ok (.if_icmp .ne 10, 3) := by decide +kernel
theorem dX7_interchange_41 : decode cX7_interchange 41 = .ok (.aload_n 0, 1) := by decide +kernel
theorem dX7_interchange_42 : decode cX7_interchange 42 = .ok (.getfield 196, 3) := by decide +kernel
theorem dX7_interchange_45 : decode cX7_interchange 45 = .ok (.goto 28, 3) := by decide +kernel
theorem dX7_interchange_48 : decode cX7_interchange 48 = .ok (.iload_n 1, 1) := by decide +kernel
theorem dX7_interchange_49 : decode cX7_interchange 49 = .ok (.iconst 2, 1) := by decide +kernel
theorem dX7_interchange_50 : decode cX7_interchange 50 = .ok (.if_icmp .ne 10, 3) := by decide +kernel
theorem dX7_interchange_53 : decode cX7_interchange 53 = .ok (.aload_n 0, 1) := by decide +kernel
theorem dX7_interchange_54 : decode cX7_interchange 54 = .ok (.getfield 199, 3) := by decide +kernel
theorem dX7_interchange_57 : decode cX7_interchange 57 = .ok (.goto 16, 3) := by decide +kernel
theorem dX7_interchange_60 : decode cX7_interchange 60 = .ok (.iload_n 1, 1) := by decide +kernel
theorem dX7_interchange_61 : decode cX7_interchange 61 = .ok (.iconst 3, 1) := by decide +kernel
theorem dX7_interchange_62 : decode cX7_interchange 62 = .ok (.if_icmp .ne 10, 3) := by decide +kernel
theorem dX7_interchange_65 : decode cX7_interchange 65 = .ok (.aload_n 0, 1) := by decide +kernel
theorem dX7_interchange_66 : decode cX7_interchange 66 = .ok (.getfield 260, 3) := by decide +kernel
theorem dX7_interchange_69 : decode cX7_interchange 69 = .ok (.goto 4, 3) := by decide +kernel
theorem dX7_interchange_72 : decode cX7_interchange 72 = .ok (.iconst (-1), 1) := by decide +kernel
theorem dX7_interchange_73 : decode cX7_interchange 73 = .ok (.ireturn, 1) := by decide +kernel
theorem dX7_message_0 : decode cX7_message 0 = .ok (.aload_n 0, 1) := by decide +kernel
theorem dX7_message_1 : decode cX7_message 1 = .ok (.aload_n 0, 1) := by decide +kernel
theorem dX7_message_2 : decode cX7_message 2 = .ok (.getfield 253, 3) := by decide +kernel
theorem dX7_message_5 : decode cX7_message 5 = .ok (.ifCond .eq 7, 3) := by decide +kernel
theorem dX7_message_8 : decode cX7_message 8 = .ok (.iconst 0, 1) := by decide +kernel
theorem dX7_message_9 : decode cX7_message 9 = .ok (.goto 4, 3) := by decide +kernel
theorem dX7_message_12 : decode cX7_message 12 = .ok (.iconst 1, 1) := by decide +kernel
theorem dX7_message_13 : decode cX7_message 13 = .ok (.putfield 102, 3) := by decide +kernel
theorem dX7_message_16 : decode cX7_message 16 = .ok (.aload_n 0, 1) := by decide +kernel
theorem dX7_message_17 : decode cX7_message 17 = .ok (.getfield 253, 3) := by decide +kernel
theorem dX7_message_20 : decode cX7_message 20 = .ok (.ifCond .eq 24, 3) := by decide +kernel
theorem dX7_message_23 : decode cX7_message 23 = .ok (.iload_n 1, 1) := by decide +kernel
theorem dX7_message_24 : decode cX7_message 24 = .ok (.ifCond .lt 20, 3) := by decide +kernel
theorem dX7_message_27 : decode cX7_message 27 = .ok (.iload_n 1, 1) := by decide +kernel
theorem dX7_message_28 : decode cX7_message 28 = .ok (.aload_n 0, 1) := by decide +kernel
theorem dX7_message_29 : decode cX7_message 29 = .ok (.getfield 196, 3) := by decide +kernel
theorem dX7_message_32 : decode cX7_message 32 = .ok (.if_icmp .ge 12, 3) := by decide +kernel
theorem dX7_message_35 : decode cX7_message 35 = .ok (.iload_n 2, 1) := by decide +kernel
theorem dX7_message_36 : decode cX7_message 36 = .ok (.ifCond .lt 8, 3) := by decide +kernel
theorem dX7_message_39 : decode cX7_message 39 = .ok (.iload_n 2, 1) := by decide +kernel
theorem dX7_message_40 : decode cX7_message 40 = .ok (.iconst 3, 1) := by decide +kernel
theorem dX7_message_41 : decode cX7_message 41 = .ok (.if_icmp .le 16, 3) := by decide +kernel
theorem dX7_message_44 : decode cX7_message 44 = .ok (.aload_n 0, 1) := by decide +kernel
theorem dX7_message_45 : decode cX7_message 45 = .ok (.getfield 253, 3) := by decide +kernel
theorem dX7_message_48 : decode cX7_message 48 = .ok (.ifCond .eq 7, 3) := by decide +kernel
theorem dX7_message_51 : decode cX7_message 51 = .ok (.iconst (-1), 1) := by decide +kernel
theorem dX7_message_52 : decode cX7_message 52 = .ok (.goto 4, 3) := by decide +kernel
theorem dX7_message_55 : decode cX7_message 55 = .ok (.iconst 0, 1) := by decide +kernel
theorem dX7_message_56 : decode cX7_message 56 = .ok (.ireturn, 1) := by decide +kernel
theorem dX7_message_57 : decode cX7_message 57 = .ok (.iload_n 2, 1) := by decide +kernel
theorem dX7_message_58 : decode cX7_message 58 = .ok (.ifCond .ne 12, 3) := by decide +kernel
theorem dX7_message_61 : decode cX7_message 61 = .ok (.aload_n 0, 1) := by decide +kernel
theorem dX7_message_62 : decode cX7_message 62 = .ok (.getfield 75, 3) := by decide +kernel
theorem dX7_message_65 : decode cX7_message 65 = .ok (.iload_n 1, 1) := by decide +kernel
theorem dX7_message_66 : decode cX7_message 66 = .ok (.iaload, 1) := by decide +kernel
theorem dX7_message_67 : decode cX7_message 67 = .ok (.goto 46, 3) := by decide +kernel
theorem dX7_message_70 : decode cX7_message 70 = .ok (.iload_n 2, 1) := by decide +kernel
theorem dX7_message_71 : decode cX7_message 71 = .ok (.iconst 1, 1) := by decide +kernel
theorem dX7_message_72 : decode cX7_message 72 = .ok (.if_icmp .ne 12, 3) := by decide +kernel
theorem dX7_message_75 : decode cX7_message 75 = .ok (.aload_n 0, 1) := by decide +kernel
theorem dX7_message_76 : decode cX7_message 76 = .ok (.getfield 78, 3) := by decide +kernel
theorem dX7_message_79 : decode cX7_message 79 = .ok (.iload_n 1, 1) := by decide +kernel
theorem dX7_message_80 : decode cX7_message 80 = .ok (.iaload, 1) := by decide +kernel
theorem dX7_message_81 : decode cX7_message 81 = .ok (.goto 32, 3) := by decide +kernel
theorem dX7_message_84 : decode cX7_message 84 = .ok (.iload_n 2, 1) := by decide +kernel
theorem dX7_message_85 : decode cX7_message 85 = .ok (.iconst 2, 1) := by decide +kernel
theorem dX7_message_86 : decode cX7_message 86 = .ok (.if_icmp .ne 21, 3) := by decide +kernel
theorem dX7_message_89 : decode cX7_message 89 = .ok (.aload_n 0, 1) := by decide +kernel
theorem dX7_message_90 : decode cX7_message 90 = .ok (.getfield 69, 3) := by decide +kernel
theorem dX7_message_93 : decode cX7_message 93 = .ok (.iload_n 1, 1) := by decide +kernel
theorem dX7_message_94 : decode cX7_message 94 = .ok (.iaload, 1) := by decide +kernel
theorem dX7_message_95 : decode cX7_message 95 = .ok (.aload_n 0, 1) := by decide +kernel
theorem dX7_message_96 : decode cX7_message 96 = .ok (.getfield 66, 3) := by decide +kernel
theorem dX7_message_99 : decode cX7_message 99 = .ok (.iload_n 1, 1) := by decide +kernel
theorem dX7_message_100 : decode cX7_message 100 = .ok (.iaload, 1) := by decide +kernel
theorem dX7_message_101 : decode cX7_message 101 = .ok (.isub, 1) := by decide +kernel
theorem dX7_message_102 : decode cX7_message 102 = .ok (.iconst 1, 1) := by decide +kernel
theorem dX7_message_103 : decode cX7_message 103 = .ok (.iadd, 1) := by decide +kernel
theorem dX7_message_104 : decode cX7_message 104 = .ok (.goto 9, 3) := by decide +kernel
theorem dX7_message_107 : decode cX7_message 107 = .ok (.aload_n 0, 1) := by decide +kernel
theorem dX7_message_108 : decode cX7_message 108 = .ok (.getfield 72, 3) := by decide +kernel
theorem dX7_message_111 : decode cX7_message 111 = .ok (.iload_n 1, 1) := by decide +kernel
theorem dX7_message_112 : decode cX7_message 112 = .ok (.iaload, 1) := by decide +kernel
theorem dX7_message_113 : decode cX7_message 113 = .ok (.ireturn, 1) := by decide +kernel
theorem dX7_group_0 : decode cX7_group 0 = .ok (.aload_n 0, 1) := by decide +kernel
theorem dX7_group_1 : decode cX7_group 1 = .ok (.aload_n 0, 1) := by decide +kernel
theorem dX7_group_2 : decode cX7_group 2 = .ok (.getfield 253, 3) := by decide +kernel
theorem dX7_group_5 : decode cX7_group 5 = .ok (.ifCond .eq 7, 3) := by decide +kernel
theorem dX7_group_8 : decode cX7_group 8 = .ok (.iconst 0, 1) := by decide +kernel
theorem dX7_group_9 : decode cX7_group 9 = .ok (.goto 4, 3) := by decide +kernel
theorem dX7_group_12 : decode cX7_group 12 = .ok (.iconst 1, 1) := by decide +kernel
theorem dX7_group_13 : decode cX7_group 13 = .ok (.putfield 102, 3) := by decide +kernel
theorem dX7_group_16 : decode cX7_group 16 = .ok (.aload_n 0, 1) := by decide +kernel
theorem dX7_group_17 : decode cX7_group 17 = .ok (.getfield 253, 3) := by decide +kernel
theorem dX7_group_20 : decode cX7_group 20 = .ok (.ifCond .ne 7, 3) := by decide +kernel
theorem dX7_group_23 : decode cX7_group 23 = .ok (.iconst 0, 1) := by decide +kernel
theorem dX7_group_24 : decode cX7_group 24 = .ok (.goto 25, 3) := by decide +kernel
theorem dX7_group_27 : decode cX7_group 27 = .ok (.iload_n 1, 1) := by decide +kernel
theorem dX7_group_28 : decode cX7_group 28 = .ok (.ifCond .lt 11, 3) := by decide +kernel
theorem dX7_group_31 : decode cX7_group 31 = .ok (.iload_n 1, 1) := by decide +kernel
theorem dX7_group_32 : decode cX7_group 32 = .ok (.aload_n 0, 1) := by decide +kernel
theorem dX7_group_33 : decode cX7_group 33 = .ok (.getfield 199, 3) := by decide +kernel
theorem dX7_group_36 : decode cX7_group 36 = .ok (.if_icmp .lt 7, 3) := by decide +kernel
theorem dX7_group_39 : decode cX7_group 39 = .ok (.iconst (-1), 1) := by decide +kernel
theorem dX7_group_40 : decode cX7_group 40 = .ok (.goto 9, 3) := by decide +kernel
theorem dX7_group_43 : decode cX7_group 43 = .ok (.aload_n 0, 1) := by decide +kernel
theorem dX7_group_44 : decode cX7_group 44 = .ok (.getfield 87, 3) := by decide +kernel
theorem dX7_group_47 : decode cX7_group 47 = .ok (.iload_n 1, 1) := by decide +kernel
theorem dX7_group_48 : decode cX7_group 48 = .ok (.iaload, 1) := by decide +kernel
theorem dX7_group_49 : decode cX7_group 49 = .ok (.ireturn, 1) := by decide +kernel
theorem dX7_segment_0 : decode cX7_segment 0 = .ok (.aload_n 0, 1) := by decide +kernel
theorem dX7_segment_1 : decode cX7_segment 1 = .ok (.aload_n 0, 1) := by decide +kernel
theorem dX7_segment_2 : decode cX7_segment 2 = .ok (.getfield 253, 3) := by decide +kernel
theorem dX7_segment_5 : decode cX7_segment 5 = .ok (.ifCond .eq 7, 3) := by decide +kernel
theorem dX7_segment_8 : decode cX7_segment 8 = .ok (.iconst 0, 1) := by decide +kernel
theorem dX7_segment_9 : decode cX7_segment 9 = .ok (.goto 4, 3) := by decide +kernel
theorem dX7_segment_12 : decode cX7_segment 12 = .ok (.iconst 1, 1) := by decide +kernel
theorem dX7_segment_13 : decode cX7_segment 13 = .ok (.putfield 102, 3) := by decide +kernel
theorem dX7_segment_16 : decode cX7_segment 16 = .ok (.aload_n 0, 1) := by decide +kernel
theorem dX7_segment_17 : decode cX7_segment 17 = .ok (.getfield 253, 3) := by decide +kernel
theorem dX7_segment_20 : decode cX7_segment 20 = .ok (.ifCond .eq 21, 3) := by decide +kernel
theorem dX7_segment_23 : decode cX7_segment 23 = .ok (.iload_n 1, 1) := by decide +kernel
theorem dX7_segment_24 : decode cX7_segment 24 = .ok (.ifCond .lt 17, 3) := by decide +kernel
theorem dX7_segment_27 : decode cX7_segment 27 = .ok (.iload_n 1, 1) := by decide +kernel
theorem dX7_segment_28 : decode cX7_segment 28 = .ok (.aload_n 0, 1) := by decide +kernel
theorem dX7_segment_29 : decode cX7_segment 29 = .ok (.getfield 187, 3) := by decide +kernel
theorem dX7_segment_32 : decode cX7_segment 32 = .ok (.if_icmp .ge 9, 3) := by decide +kernel
theorem dX7_segment_35 : decode cX7_segment 35 = .ok (.iload_n 2, 1) := by decide +kernel
theorem dX7_segment_36 : decode cX7_segment 36 = .ok (.bipush (-2), 2) := by decide +kernel
theorem dX7_segment_38 : decode cX7_segment 38 = .ok (.if_icmp .ge 16, 3) := by decide +kernel
theorem dX7_segment_41 : decode cX7_segment 41 = .ok (.aload_n 0, 1) := by decide +kernel
theorem dX7_segment_42 : decode cX7_segment 42 = .ok (.getfield 253, 3) := by decide +kernel
theorem dX7_segment_45 : decode cX7_segment 45 = .ok (.ifCond .eq 7, 3) := by decide +kernel
theorem dX7_segment_48 : decode cX7_segment 48 = .ok (.iconst (-1), 1) := by decide +kernel
theorem dX7_segment_49 : decode cX7_segment 49 = .ok (.goto 4, 3) := by decide +kernel
theorem dX7_segment_52 : decode cX7_segment 52 = .ok (.iconst 0, 1) := by decide +kernel
theorem dX7_segment_53 : decode cX7_segment 53 = .ok (.ireturn, 1) := by decide +kernel
theorem dX7_segment_54 : decode cX7_segment 54 = .ok (.aload_n 0, 1) := by decide +kernel
theorem dX7_segment_55 : decode cX7_segment 55 = .ok (.getfield 54, 3) := by decide +kernel
theorem dX7_segment_58 : decode cX7_segment 58 = .ok (.iload_n 1, 1) := by decide +kernel
theorem dX7_segment_59 : decode cX7_segment 59 = .ok (.iconst 1, 1) := by decide +kernel
theorem dX7_segment_60 : decode cX7_segment 60 = .ok (.iadd, 1) := by decide +kernel
theorem dX7_segment_61 : decode cX7_segment 61 = .ok (.iaload, 1) := by decide +kernel
theorem dX7_segment_62 : decode cX7_segment 62 = .ok (.aload_n 0, 1) := by decide +kernel
theorem dX7_segment_63 : decode cX7_segment 63 = .ok (.getfield 54, 3) := by decide +kernel
theorem dX7_segment_66 : decode cX7_segment 66 = .ok (.iload_n 1, 1) := by decide +kernel
theorem dX7_segment_67 : decode cX7_segment 67 = .ok (.iaload, 1) := by decide +kernel
theorem dX7_segment_68 : decode cX7_segment 68 = .ok (.isub, 1) := by decide +kernel
theorem dX7_segment_69 : decode cX7_segment 69 = .ok (.istore 5, 2) := by decide +kernel
theorem dX7_segment_71 : decode cX7_segment 71 = .ok (.iload_n 2, 1) := by decide +kernel
theorem dX7_segment_72 : decode cX7_segment 72 = .ok (.ifCond .ge 21, 3) := by decide +kernel
theorem dX7_segment_75 : decode cX7_segment 75 = .ok (.iload_n 2, 1) := by decide +kernel
theorem dX7_segment_76 : decode cX7_segment 76 = .ok (.bipush (-2), 2) := by decide +kernel
theorem dX7_segment_78 : decode cX7_segment 78 = .ok (.if_icmp .ne 12, 3) := by decide +kernel
theorem dX7_segment_81 : decode cX7_segment 81 = .ok (.aload_n 0, 1) := by decide +kernel
theorem dX7_segment_82 : decode cX7_segment 82 = .ok (.getfield 51, 3) := by decide +kernel
theorem dX7_segment_85 : decode cX7_segment 85 = .ok (.iload_n 1, 1) := by decide +kernel
theorem dX7_segment_86 : decode cX7_segment 86 = .ok (.iaload, 1) := by decide +kernel
theorem dX7_segment_87 : decode cX7_segment 87 = .ok (.goto 5, 3) := by decide +kernel
theorem dX7_segment_90 : decode cX7_segment 90 = .ok (.iload 5, 2) := by decide +kernel
theorem dX7_segment_92 : decode cX7_segment 92 = .ok (.ireturn, 1) := by decide +kernel
theorem dX7_segment_93 : decode cX7_segment 93 = .ok (.iload_n 2, 1) := by decide +kernel
theorem dX7_segment_94 : decode cX7_segment 94 = .ok (.iload 5, 2) := by decide +kernel
theorem dX7_segment_96 : decode cX7_segment 96 = .ok (.if_icmp .ge 8, 3) := by decide +kernel
theorem dX7_segment_99 : decode cX7_segment 99 = .ok (.iload_n 3, 1) := by decide +kernel
theorem dX7_segment_100 : decode cX7_segment 100 = .ok (.iconst (-1), 1) := by decide +kernel
theorem dX7_segment_101 : decode cX7_segment 101 = .ok (.if_icmp .ge 5, 3) := by decide +kernel
theorem dX7_segment_104 : decode cX7_segment 104 = .ok (.iconst (-1), 1) := by decide +kernel
theorem dX7_segment_105 : decode cX7_segment 105 = .ok (.ireturn, 1) := by decide +kernel
theorem dX7_segment_106 : decode cX7_segment 106 = .ok (.aload_n 0, 1) := by decide +kernel
theorem dX7_segment_107 : decode cX7_segment 107 = .ok (.getfield 54, 3) := by decide +kernel
theorem dX7_segment_110 : decode cX7_segment 110 = .ok (.iload_n 1, 1) := by decide +kernel
theorem dX7_segment_111 : decode cX7_segment 111 = .ok (.iaload, 1) := by decide +kernel
theorem dX7_segment_112 : decode cX7_segment 112 = .ok (.iload_n 2, 1) := by decide +kernel
theorem dX7_segment_113 : decode cX7_segment 113 = .ok (.iadd, 1) := by decide +kernel
theorem dX7_segment_114 : decode cX7_segment 114 = .ok (.istore 6, 2) := by decide +kernel
theorem dX7_segment_116 : decode cX7_segment 116 = .ok (.aload_n 0, 1) := by decide +kernel
theorem dX7_segment_117 : decode cX7_segment 117 = .ok (.getfield 57, 3) := by decide +kernel
theorem dX7_segment_120 : decode cX7_segment 120 = .ok (.iload 6, 2) := by decide +kernel
theorem dX7_segment_122 : decode cX7_segment 122 = .ok (.iconst 1, 1) := by decide +kernel
theorem dX7_segment_123 : decode cX7_segment 123 = .ok (.iadd, 1) := by decide +kernel
theorem dX7_segment_124 : decode cX7_segment 124 = .ok (.iaload, 1) := by decide +kernel
theorem dX7_segment_125 : decode cX7_segment 125 = .ok (.aload_n 0, 1) := by decide +kernel
theorem dX7_segment_126 : decode cX7_segment 126 = .ok (.getfield 57, 3) := by decide +kernel
theorem dX7_segment_129 : decode cX7_segment 129 = .ok (.iload 6, 2) := by decide +kernel
theorem dX7_segment_131 : decode cX7_segment 131 = .ok (.iaload, 1) := by decide +kernel
theorem dX7_segment_132 : decode cX7_segment 132 = .ok (.isub, 1) := by decide +kernel
theorem dX7_segment_133 : decode cX7_segment 133 = .ok (.istore 7, 2) := by decide +kernel
theorem dX7_segment_135 : decode cX7_segment 135 = .ok (.iload_n 3, 1) := by decide +kernel
theorem dX7_segment_136 : decode cX7_segment 136 = .ok (.ifCond .lt 15, 3) := by decide +kernel
theorem dX7_segment_139 : decode cX7_segment 139 = .ok (.iload_n 3, 1) := by decide +kernel
theorem dX7_segment_140 : decode cX7_segment 140 = .ok (.iload 7, 2) := by decide +kernel
theorem dX7_segment_142 : decode cX7_segment 142 = .ok (.if_icmp .ge 9, 3) := by decide +kernel
theorem dX7_segment_145 : decode cX7_segment 145 = .ok (.iload 4, 2) := by decide +kernel
theorem dX7_segment_147 : decode cX7_segment 147 = .ok (.iconst (-1), 1) := by decide +kernel
theorem dX7_segment_148 : decode cX7_segment 148 = .ok (.if_icmp .ge 14, 3) := by decide +kernel
theorem dX7_segment_151 : decode cX7_segment 151 = .ok (.iload_n 3, 1) := by decide +kernel
theorem dX7_segment_152 : decode cX7_segment 152 = .ok (.ifCond .ge 8, 3) := by decide +kernel
theorem dX7_segment_155 : decode cX7_segment 155 = .ok (.iload 7, 2) := by decide +kernel
theorem dX7_segment_157 : decode cX7_segment 157 = .ok (.goto 4, 3) := by decide +kernel
theorem dX7_segment_160 : decode cX7_segment 160 = .ok (.iconst (-1), 1) := by decide +kernel
theorem dX7_segment_161 : decode cX7_segment 161 = .ok (.ireturn, 1) := by decide +kernel
theorem dX7_segment_162 : decode cX7_segment 162 = .ok (.aload_n 0, 1) := by decide +kernel
theorem dX7_segment_163 : decode cX7_segment 163 = .ok (.aload_n 0, 1) := by decide +kernel
theorem dX7_segment_164 : decode cX7_segment 164 = .ok (.getfield 57, 3) := by decide +kernel
theorem dX7_segment_167 : decode cX7_segment 167 = .ok (.iload 6, 2) := by decide +kernel
theorem dX7_segment_169 : decode cX7_segment 169 = .ok (.iaload, 1) := by decide +kernel
theorem dX7_segment_170 : decode cX7_segment 170 = .ok (.iload_n 3, 1) := by decide +kernel
theorem dX7_segment_171 : decode cX7_segment 171 = .ok (.iadd, 1) := by decide +kernel
theorem dX7_segment_172 : decode cX7_segment 172 = .ok (.invokevirtual 202, 3) := by decide +kernel
theorem dX7_segment_175 : decode cX7_segment 175 = .ok (.istore 8, 2) := by decide +kernel
theorem dX7_segment_177 : decode cX7_segment 177 = .ok (.iload 4, 2) := by decide +kernel
theorem dX7_segment_179 : decode cX7_segment 179 = .ok (.ifCond .ge 8, 3) := by decide +kernel
theorem dX7_segment_182 : decode cX7_segment 182 = .ok (.iload 8, 2) := by decide +kernel
theorem dX7_segment_184 : decode cX7_segment 184 = .ok (.goto 36, 3) := by decide +kernel
theorem dX7_segment_187 : decode cX7_segment 187 = .ok (.iload 4, 2) := by decide +kernel
theorem dX7_segment_189 : decode cX7_segment 189 = .ok (.iload 8, 2) := by decide +kernel
theorem dX7_segment_191 : decode cX7_segment 191 = .ok (.if_icmp .ge 28, 3) := by decide +kernel
theorem dX7_segment_194 : decode cX7_segment 194 = .ok (.aload_n 0, 1) := by decide +kernel
theorem dX7_segment_195 : decode cX7_segment 195 = .ok (.getfield 63, 3) := by decide +kernel
theorem dX7_segment_198 : decode cX7_segment 198 = .ok (.aload_n 0, 1) := by decide +kernel
theorem dX7_segment_199 : decode cX7_segment 199 = .ok (.getfield 60, 3) := by decide +kernel
theorem dX7_segment_202 : decode cX7_segment 202 = .ok (.aload_n 0, 1) := by decide +kernel
theorem dX7_segment_203 : decode cX7_segment 203 = .ok (.getfield 57, 3) := by decide +kernel
theorem dX7_segment_206 : decode cX7_segment 206 = .ok (.iload 6, 2) := by decide +kernel
theorem dX7_segment_208 : decode cX7_segment 208 = .ok (.iaload, 1) := by decide +kernel
theorem dX7_segment_209 : decode cX7_segment 209 = .ok (.iload_n 3, 1) := by decide +kernel
theorem dX7_segment_210 : decode cX7_segment 210 = .ok (.iadd, 1) := by decide +kernel
theorem dX7_segment_211 : decode cX7_segment 211 = .ok (.iaload, 1) := by decide +kernel
theorem dX7_segment_212 : decode cX7_segment 212 = .ok (.iload 4, 2) := by decide +kernel
theorem dX7_segment_214 : decode cX7_segment 214 = .ok (.iadd, 1) := by decide +kernel
theorem dX7_segment_215 : decode cX7_segment 215 = .ok (.iaload, 1) := by decide +kernel
theorem dX7_segment_216 : decode cX7_segment 216 = .ok (.goto 4, 3) := by decide +kernel
theorem dX7_segment_219 : decode cX7_segment 219 = .ok (.iconst (-1), 1) := by decide +kernel
theorem dX7_segment_220 : decode cX7_segment 220 = .ok (.ireturn, 1) := by decide +kernel
theorem dX7_print_0 : decode cX7_print 0 = .ok (.aload_n 0, 1) := by decide +kernel
theorem dX7_print_1 : decode cX7_print 1 = .ok (.aload_n 0, 1) := by decide +kernel
theorem dX7_print_2 : decode cX7_print 2 = .ok (.getfield 253, 3) := by decide +kernel
theorem dX7_print_5 : decode cX7_print 5 = .ok (.ifCond .eq 7, 3) := by decide +kernel
theorem dX7_print_8 : decode cX7_print 8 = .ok (.iconst 0, 1) := by decide +kernel
theorem dX7_print_9 : decode cX7_print 9 = .ok (.goto 4, 3) := by decide +kernel
theorem dX7_print_12 : decode cX7_print 12 = .ok (.iconst 1, 1) := by decide +kernel
theorem dX7_print_13 : decode cX7_print 13 = .ok (.putfield 102, 3) := by decide +kernel
theorem dX7_print_16 : decode cX7_print 16 = .ok (.aload_n 0, 1) := by decide +kernel
theorem dX7_print_17 : decode cX7_print 17 = .ok (.getfield 253, 3) := by decide +kernel
theorem dX7_print_20 : decode cX7_print 20 = .ok (.ifCond .ne 7, 3) := by decide +kernel
theorem dX7_print_23 : decode cX7_print 23 = .ok (.iconst 0, 1) := by decide +kernel
theorem dX7_print_24 : decode cX7_print 24 = .ok (.goto 37, 3) := by decide +kernel
theorem dX7_print_27 : decode cX7_print 27 = .ok (.iload_n 1, 1) := by decide +kernel
theorem dX7_print_28 : decode cX7_print 28 = .ok (.iconst (-1), 1) := by decide +kernel
theorem dX7_print_29 : decode cX7_print 29 = .ok (.if_icmp .ne 10, 3) := by decide +kernel
theorem dX7_print_32 : decode cX7_print 32 = .ok (.aload_n 0, 1) := by decide +kernel
theorem dX7_print_33 : decode cX7_print 33 = .ok (.getfield 275, 3) := by decide +kernel
theorem dX7_print_36 : decode cX7_print 36 = .ok (.goto 25, 3) := by decide +kernel
theorem dX7_print_39 : decode cX7_print 39 = .ok (.iload_n 1, 1) := by decide +kernel
theorem dX7_print_40 : decode cX7_print 40 = .ok (.ifCond .lt 11, 3) := by decide +kernel
theorem dX7_print_43 : decode cX7_print 43 = .ok (.iload_n 1, 1) := by decide +kernel
theorem dX7_print_44 : decode cX7_print 44 = .ok (.aload_n 0, 1) := by decide +kernel
theorem dX7_print_45 : decode cX7_print 45 = .ok (.getfield 275, 3) := by decide +kernel
theorem dX7_print_48 : decode cX7_print 48 = .ok (.if_icmp .lt 7, 3) := by decide +kernel
theorem dX7_print_51 : decode cX7_print 51 = .ok (.iconst (-1), 1) := by decide +kernel
theorem dX7_print_52 : decode cX7_print 52 = .ok (.goto 9, 3) := by decide +kernel
theorem dX7_print_55 : decode cX7_print 55 = .ok (.aload_n 0, 1) := by decide +kernel
theorem dX7_print_56 : decode cX7_print 56 = .ok (.getfield 96, 3) := by decide +kernel
theorem dX7_print_59 : decode cX7_print 59 = .ok (.iload_n 1, 1) := by decide +kernel
theorem dX7_print_60 : decode cX7_print 60 = .ok (.iaload, 1) := by decide +kernel
theorem dX7_print_61 : decode cX7_print 61 = .ok (.ireturn, 1) := by decide +kernel
theorem dX7_report_0 : decode cX7_report 0 = .ok (.aload_n 0, 1) := by decide +kernel
theorem dX7_report_1 : decode cX7_report 1 = .ok (.aload_n 0, 1) := by decide +kernel
theorem dX7_report_2 : decode cX7_report 2 = .ok (.getfield 253, 3) := by decide +kernel
theorem dX7_report_5 : decode cX7_report 5 = .ok (.ifCond .eq 7, 3) := by decide +kernel
theorem dX7_report_8 : decode cX7_report 8 = .ok (.iconst 0, 1) := by decide +kernel
theorem dX7_report_9 : decode cX7_report 9 = .ok (.goto 4, 3) := by decide +kernel
theorem dX7_report_12 : decode cX7_report 12 = .ok (.iconst 1, 1) := by decide +kernel
theorem dX7_report_13 : decode cX7_report 13 = .ok (.putfield 102, 3) := by decide +kernel
theorem dX7_report_16 : decode cX7_report 16 = .ok (.aload_n 0, 1) := by decide +kernel
theorem dX7_report_17 : decode cX7_report 17 = .ok (.getfield 253, 3) := by decide +kernel
theorem dX7_report_20 : decode cX7_report 20 = .ok (.ifCond .ne 7, 3) := by decide +kernel
theorem dX7_report_23 : decode cX7_report 23 = .ok (.iconst 0, 1) := by decide +kernel
theorem dX7_report_24 : decode cX7_report 24 = .ok (.goto 37, 3) := by decide +kernel
theorem dX7_report_27 : decode cX7_report 27 = .ok (.iload_n 1, 1) := by decide +kernel
theorem dX7_report_28 : decode cX7_report 28 = .ok (.iconst (-1), 1) := by decide +kernel
theorem dX7_report_29 : decode cX7_report 29 = .ok (.if_icmp .ne 10, 3) := by decide +kernel
theorem dX7_report_32 : decode cX7_report 32 = .ok (.aload_n 0, 1) := by decide +kernel
theorem dX7_report_33 : decode cX7_report 33 = .ok (.getfield 272, 3) := by decide +kernel
theorem dX7_report_36 : decode cX7_report 36 = .ok (.goto 25, 3) := by decide +kernel
theorem dX7_report_39 : decode cX7_report 39 = .ok (.iload_n 1, 1) := by decide +kernel
theorem dX7_report_40 : decode cX7_report 40 = .ok (.ifCond .lt 11, 3) := by decide +kernel
theorem dX7_report_43 : decode cX7_report 43 = .ok (.iload_n 1, 1) := by decide +kernel
theorem dX7_report_44 : decode cX7_report 44 = .ok (.aload_n 0, 1) := by decide +kernel
theorem dX7_report_45 : decode cX7_report 45 = .ok (.getfield 272, 3) := by decide +kernel
theorem dX7_report_48 : decode cX7_report 48 = .ok (.if_icmp .lt 7, 3) := by decide +kernel
theorem dX7_report_51 : decode cX7_report 51 = .ok (.iconst (-1), 1) := by decide +kernel
theorem dX7_report_52 : decode cX7_report 52 = .ok (.goto 9, 3) := by decide +kernel
theorem dX7_report_55 : decode cX7_report 55 = .ok (.aload_n 0, 1) := by decide +kernel
theorem dX7_report_56 : decode cX7_report 56 = .ok (.getfield 99, 3) := by decide +kernel
theorem dX7_report_59 : decode cX7_report 59 = .ok (.iload_n 1, 1) := by decide +kernel
theorem dX7_report_60 : decode cX7_report 60 = .ok (.iaload, 1) := by decide +kernel
theorem dX7_report_61 : decode cX7_report 61 = .ok (.ireturn, 1) := by decide +kernel
