theorem dX8_init_0 : decode cX8_init 0 = .ok (.aload_n 0, 1) := by decide +kernel
theorem dX8_init_1 : decode cX8_init 1 = .ok (.invokespecial 1, 3) := by decide +kernel
theorem dX8_init_4 : decode cX8_init 4 = .ok (.aload_n 0, 1) := by decide +kernel
theorem dX8_init_5 : decode cX8_init 5 = .ok (.iconst (-1), 1) := by decide +kernel
theorem dX8_init_6 : decode cX8_init 6 = .ok (.putfield 9, 3) := by decide +kernel
theorem dX8_init_9 : decode cX8_init 9 = .ok (.aload_n 0, 1) := by decide +kernel
theorem dX8_init_10 : decode cX8_init 10 = .ok (.bipush 28, 2) := by decide +kernel
theorem dX8_init_12 : decode cX8_init 12 = .ok (.newarray .int, 2) := by decide +kernel
theorem dX8_init_14 : decode cX8_init 14 = .ok (.putfield 13, 3) := by decide +kernel
theorem dX8_init_17 : decode cX8_init 17 = .ok (.aload_n 0, 1) := by decide +kernel
theorem dX8_init_18 : decode cX8_init 18 = .ok (.iconst 2, 1) := by decide +kernel
theorem dX8_init_19 : decode cX8_init 19 = .ok (.newarray .int, 2) := by decide +kernel
theorem dX8_init_21 : decode cX8_init 21 = .ok (.putfield 17, 3) := by decide +kernel
theorem dX8_init_24 : decode cX8_init 24 = .ok (.aload_n 0, 1) := by decide +kernel
theorem dX8_init_25 : decode cX8_init 25 = .ok (.bipush 6, 2) := by decide +kernel
theorem dX8_init_27 : decode cX8_init 27 = .ok (.newarray .int, 2) := by decide +kernel
theorem dX8_init_29 : decode cX8_init 29 = .ok (.putfield 20, 3) := by decide +kernel
theorem dX8_init_32 : decode cX8_init 32 = .ok (.aload_n 0, 1) := by decide +kernel
theorem dX8_init_33 : decode cX8_init 33 = .ok (.bipush 6, 2) := by decide +kernel
theorem dX8_init_35 : decode cX8_init 35 = .ok (.newarray .int, 2) := by decide +kernel
theorem dX8_init_37 : decode cX8_init 37 = .ok (.putfield 23, 3) := by decide +kernel
theorem dX8_init_40 : decode cX8_init 40 = .ok (.aload_n 0, 1) := by decide +kernel
theorem dX8_init_41 : decode cX8_init 41 = .ok (.bipush 36, 2) := by decide +kernel
theorem dX8_init_43 : decode cX8_init 43 = .ok (.newarray .byte, 2) := by decide +kernel
theorem dX8_init_45 : decode cX8_init 45 = .ok (.putfield 26, 3) := by decide +kernel
theorem dX8_init_48 : decode cX8_init 48 = .ok (.aload_n 0, 1) := by decide +kernel
theorem dX8_init_49 : decode cX8_init 49 = .ok (.bipush 64, 2) := by decide +kernel
theorem dX8_init_51 : decode cX8_init 51 = .ok (.newarray .int, 2) := by decide +kernel
theorem dX8_init_53 : decode cX8_init 53 = .ok (.putfield 30, 3) := by decide +kernel
theorem dX8_init_56 : decode cX8_init 56 = .ok (.aload_n 0, 1) := by decide +kernel
theorem dX8_init_57 : decode cX8_init 57 = .ok (.bipush 64, 2) := by decide +kernel
theorem dX8_init_59 : decode cX8_init 59 = .ok (.newarray .int, 2) := by decide +kernel
theorem dX8_init_61 : decode cX8_init 61 = .ok (.putfield 33, 3) := by decide +kernel
theorem dX8_init_64 : decode cX8_init 64 = .ok (.aload_n 0, 1) := by decide +kernel
theorem dX8_init_65 : decode cX8_init 65 = .ok (.sipush 256, 3) := by decide +kernel
theorem dX8_init_68 : decode cX8_init 68 = .ok (.newarray .int, 2) := by decide +kernel
theorem dX8_init_70 : decode cX8_init 70 = .ok (.putfield 36, 3) := by decide +kernel
theorem dX8_init_73 : decode cX8_init 73 = .ok (.aload_n 0, 1) := by decide +kernel
theorem dX8_init_74 : decode cX8_init 74 = .ok (.sipush 256, 3) := by decide +kernel
theorem dX8_init_77 : decode cX8_init 77 = .ok (.newarray .int, 2) := by decide +kernel
theorem dX8_init_79 : decode cX8_init 79 = .ok (.putfield 39, 3) := by decide +kernel
theorem dX8_init_82 : decode cX8_init 82 = .ok (.aload_n 0, 1) := by decide +kernel
theorem dX8_init_83 : decode cX8_init 83 = .ok (.sipush 512, 3) := by decide +kernel
theorem dX8_init_86 : decode cX8_init 86 = .ok (.newarray .int, 2) := by decide +kernel
theorem dX8_init_88 : decode cX8_init 88 = .ok (.putfield 42, 3) := by decide +kernel
theorem dX8_init_91 : decode cX8_init 91 = .ok (.aload_n 0, 1) := by decide +kernel
theorem dX8_init_92 : decode cX8_init 92 = .ok (.sipush 512, 3) := by decide +kernel
theorem dX8_init_95 : decode cX8_init 95 = .ok (.newarray .int, 2) := by decide +kernel
theorem dX8_init_97 : decode cX8_init 97 = .ok (.putfield 45, 3) := by decide +kernel
theorem dX8_init_100 : decode cX8_init 100 = .ok (.aload_n 0, 1) := by decide +kernel
theorem dX8_init_101 : decode cX8_init 101 = .ok (.sipush 512, 3) := by decide +kernel
theorem dX8_init_104 : decode cX8_init 104 = .ok (.newarray .int, 2) := by decide +kernel
theorem dX8_init_106 : decode cX8_init 106 = .ok (.putfield 48, 3) := by decide +kernel
theorem dX8_init_109 : decode cX8_init 109 = .ok (.aload_n 0, 1) := by decide +kernel
theorem dX8_init_110 : decode cX8_init 110 = .ok (.bipush 6, 2) := by decide +kernel
theorem dX8_init_112 : decode cX8_init 112 = .ok (.newarray .int, 2) := by decide +kernel
theorem dX8_init_114 : decode cX8_init 114 = .ok (.putfield 51, 3) := by decide +kernel
theorem dX8_init_117 : decode cX8_init 117 = .ok (.aload_n 0, 1) := by decide +kernel
theorem dX8_init_118 : decode cX8_init 118 = .ok (.bipush 6, 2) := by decide +kernel
theorem dX8_init_120 : decode cX8_init 120 = .ok (.newarray .int, 2) := by decide +kernel
theorem dX8_init_122 : decode cX8_init 122 = .ok (.putfield 54, 3) := by decide +kernel
theorem dX8_init_125 : decode cX8_init 125 = .ok (.aload_n 0, 1) := by decide +kernel
theorem dX8_init_126 : decode cX8_init 126 = .ok (.bipush 6, 2) := by decide +kernel
theorem dX8_init_128 : decode cX8_init 128 = .ok (.newarray .int, 2) := by decide +kernel
theorem dX8_init_130 : decode cX8_init 130 = .ok (.putfield 57, 3) := by decide +kernel
theorem dX8_init_133 : decode cX8_init 133 = .ok (.aload_n 0, 1) := by decide +kernel
theorem dX8_init_134 : decode cX8_init 134 = .ok (.bipush 6, 2) := by decide +kernel
theorem dX8_init_136 : decode cX8_init 136 = .ok (.newarray .int, 2) := by decide +kernel
theorem dX8_init_138 : decode cX8_init 138 = .ok (.putfield 60, 3) := by decide +kernel
theorem dX8_init_141 : decode cX8_init 141 = .ok (.aload_n 0, 1) := by decide +kernel
theorem dX8_init_142 : decode cX8_init 142 = .ok (.bipush 6, 2) := by decide +kernel
theorem dX8_init_144 : decode cX8_init 144 = .ok (.newarray .int, 2) := by decide +kernel
theorem dX8_init_146 : decode cX8_init 146 = .ok (.putfield 63, 3) := by decide +kernel
theorem dX8_init_149 : decode cX8_init 149 = .ok (.aload_n 0, 1) := by decide +kernel
theorem dX8_init_150 : decode cX8_init 150 = .ok (.bipush 10, 2) := by decide +kernel
theorem dX8_init_152 : decode cX8_init 152 = .ok (.newarray .int, 2) := by decide +kernel
theorem dX8_init_154 : decode cX8_init 154 = .ok (.putfield 66, 3) := by decide +kernel
theorem dX8_init_157 : decode cX8_init 157 = .ok (.aload_n 0, 1) := by decide +kernel
theorem dX8_init_158 : decode cX8_init 158 = .ok (.sipush 256, 3) := by decide +kernel
theorem dX8_init_161 : decode cX8_init 161 = .ok (.newarray .int, 2) := by decide +kernel
theorem dX8_init_163 : decode cX8_init 163 = .ok (.putfield 69, 3) := by decide +kernel
theorem dX8_init_166 : decode cX8_init 166 = .ok (.aload_n 0, 1) := by decide +kernel
theorem dX8_init_167 : decode cX8_init 167 = .ok (.sipush 256, 3) := by decide +kernel
theorem dX8_init_170 : decode cX8_init 170 = .ok (.newarray .int, 2) := by decide +kernel
theorem dX8_init_172 : decode cX8_init 172 = .ok (.putfield 72, 3) := by decide +kernel
theorem dX8_init_175 : decode cX8_init 175 = .ok (.aload_n 0, 1) := by decide +kernel
theorem dX8_init_176 : decode cX8_init 176 = .ok (.sipush 512, 3) := by decide +kernel
theorem dX8_init_179 : decode cX8_init 179 = .ok (.newarray .int, 2) := by decide +kernel
theorem dX8_init_181 : decode cX8_init 181 = .ok (.putfield 75, 3) := by decide +kernel
theorem dX8_init_184 : decode cX8_init 184 = .ok (.aload_n 0, 1) := by decide +kernel
theorem dX8_init_185 : decode cX8_init 185 = .ok (.sipush 512, 3) := by decide +kernel
theorem dX8_init_188 : decode cX8_init 188 = .ok (.newarray .int, 2) := by decide +kernel
theorem dX8_init_190 : decode cX8_init 190 = .ok (.putfield 78, 3) := by decide +kernel
theorem dX8_init_193 : decode cX8_init 193 = .ok (.aload_n 0, 1) := by decide +kernel
theorem dX8_init_194 : decode cX8_init 194 = .ok (.sipush 512, 3) := by decide +kernel
theorem dX8_init_197 : decode cX8_init 197 = .ok (.newarray .int, 2) := by decide +kernel
theorem dX8_init_199 : decode cX8_init 199 = .ok (.putfield 81, 3) := by decide +kernel
theorem dX8_init_202 : decode cX8_init 202 = .ok (.aload_n 0, 1) := by decide +kernel
theorem dX8_init_203 : decode cX8_init 203 = .ok (.bipush 28, 2) := by decide +kernel
theorem dX8_init_205 : decode cX8_init 205 = .ok (.newarray .int, 2) := by decide +kernel
theorem dX8_init_207 : decode cX8_init 207 = .ok (.putfield 84, 3) := by decide +kernel
theorem dX8_init_210 : decode cX8_init 210 = .ok (.aload_n 0, 1) := by decide +kernel
theorem dX8_init_211 : decode cX8_init 211 = .ok (.bipush 28, 2) := by decide +kernel
theorem dX8_init_213 : decode cX8_init 213 = .ok (.newarray .int, 2) := by decide +kernel
theorem dX8_init_215 : decode cX8_init 215 = .ok (.putfield 87, 3) := by decide +kernel
theorem dX8_init_218 : decode cX8_init 218 = .ok (.aload_n 0, 1) := by decide +kernel
theorem dX8_init_219 : decode cX8_init 219 = .ok (.bipush 6, 2) := by decide +kernel
theorem dX8_init_221 : decode cX8_init 221 = .ok (.newarray .int, 2) := by decide +kernel
theorem dX8_init_223 : decode cX8_init 223 = .ok (.putfield 90, 3) := by decide +kernel
theorem dX8_init_226 : decode cX8_init 226 = .ok (.aload_n 0, 1) := by decide +kernel
theorem dX8_init_227 : decode cX8_init 227 = .ok (.bipush 6, 2) := by decide +kernel
theorem dX8_init_229 : decode cX8_init 229 = .ok (.newarray .int, 2) := by decide +kernel
theorem dX8_init_231 : decode cX8_init 231 = .ok (.putfield 93, 3) := by decide +kernel
theorem dX8_init_234 : decode cX8_init 234 = .ok (.aload_n 0, 1) := by decide +kernel
theorem dX8_init_235 : decode cX8_init 235 = .ok (.invokevirtual 96, 3) := by decide +kernel
theorem dX8_init_238 : decode cX8_init 238 = .ok (.return_, 1) := by decide +kernel
theorem dX8_within_0 : decode cX8_within 0 = .ok (.iload_n 0, 1) := by decide +kernel
theorem dX8_within_1 : decode cX8_within 1 = .ok (.iload_n 1, 1) := by decide +kernel
theorem dX8_within_2 : decode cX8_within 2 = .ok (.if_icmp .lt 12, 3) := by decide +kernel
theorem dX8_within_5 : decode cX8_within 5 = .ok (.iload_n 0, 1) := by decide +kernel
theorem dX8_within_6 : decode cX8_within 6 = .ok (.iload_n 2, 1) := by decide +kernel
theorem dX8_within_7 : decode cX8_within 7 = .ok (.if_icmp .gt 7, 3) := by decide +kernel
theorem dX8_within_10 : decode cX8_within 10 = .ok (.iconst 1, 1) := by decide +kernel
theorem dX8_within_11 : decode cX8_within 11 = .ok (.goto 4, 3) := by decide +kernel
theorem dX8_within_14 : decode cX8_within 14 = .ok (.iconst 0, 1) := by decide +kernel
theorem dX8_within_15 : decode cX8_within 15 = .ok (.ireturn, 1) := by decide +kernel
theorem dX8_isIn_0 : decode cX8_isIn 0 = .ok (.iload_n 0, 1) := by decide +kernel
theorem dX8_isIn_1 : decode cX8_isIn 1 = .ok (.iload_n 1, 1) := by decide +kernel
theorem dX8_isIn_2 : decode cX8_isIn 2 = .ok (.ishr, 1) := by decide +kernel
theorem dX8_isIn_3 : decode cX8_isIn 3 = .ok (.iconst 1, 1) := by decide +kernel
theorem dX8_isIn_4 : decode cX8_isIn 4 = .ok (.iand, 1) := by decide +kernel
theorem dX8_isIn_5 : decode cX8_isIn 5 = .ok (.iconst 1, 1) := by decide +kernel
theorem dX8_isIn_6 : decode cX8_isIn 6 = .ok (.if_icmp .ne 7, 3) := by decide +kernel
theorem dX8_isIn_9 : decode cX8_isIn 9 = .ok (.iconst 1, 1) := by decide +kernel
theorem dX8_isIn_10 : decode cX8_isIn 10 = .ok (.goto 4, 3) := by decide +kernel
theorem dX8_isIn_13 : decode cX8_isIn 13 = .ok (.iconst 0, 1) := by decide +kernel
theorem dX8_isIn_14 : decode cX8_isIn 14 = .ok (.ireturn, 1) := by decide +kernel
theorem dX8_size_0 : decode cX8_size 0 = .ok (.iconst 0, 1) := by decide +kernel
theorem dX8_size_1 : decode cX8_size 1 = .ok (.istore_n 1, 1) := by decide +kernel
theorem dX8_size_2 : decode cX8_size 2 = .ok (.iconst 0, 1) := by decide +kernel
theorem dX8_size_3 : decode cX8_size 3 = .ok (.istore_n 2, 1) := by decide +kernel
theorem dX8_size_4 : decode cX8_size 4 = .ok (.iload_n 2, 1) := by decide +kernel
theorem dX8_size_5 : decode cX8_size 5 = .ok (.bipush 16, 2) := by decide +kernel
theorem dX8_size_7 : decode cX8_size 7 = .ok (.if_icmp .ge 17, 3) := by decide +kernel
theorem dX8_size_10 : decode cX8_size 10 = .ok (.iload_n 1, 1) := by decide +kernel
theorem dX8_size_11 : decode cX8_size 11 = .ok (.iload_n 0, 1) := by decide +kernel
theorem dX8_size_12 : decode cX8_size 12 = .ok (.iload_n 2, 1) := by decide +kernel
theorem dX8_size_13 : decode cX8_size 13 = .ok (.ishr, 1) := by decide +kernel
theorem dX8_size_14 : decode cX8_size 14 = .ok (.iconst 1, 1) := by decide +kernel
theorem dX8_size_15 : decode cX8_size 15 = .ok (.iand, 1) := by decide +kernel
theorem dX8_size_16 : decode cX8_size 16 = .ok (.iadd, 1) := by decide +kernel
theorem dX8_size_17 : decode cX8_size 17 = .ok (.istore_n 1, 1) := by decide +kernel
theorem dX8_size_18 : decode cX8_size 18 = .ok (.iinc 2 1, 3) := by decide +kernel
theorem dX8_size_21 : decode cX8_size 21 = .ok (.goto (-17), 3) := by decide +kernel
theorem dX8_size_24 : decode cX8_size 24 = .ok (.iload_n 1, 1) := by decide +kernel
theorem dX8_size_25 : decode cX8_size 25 = .ok (.ireturn, 1) := by decide +kernel
theorem dX8_letter_0 : decode cX8_letter 0 = .ok (.iload_n 1, 1) := by decide +kernel
theorem dX8_letter_1 : decode cX8_letter 1 = .ok (.bipush 32, 2) := by decide +kernel
theorem dX8_letter_3 : decode cX8_letter 3 = .ok (.bipush 126, 2) := by decide +kernel
theorem dX8_letter_5 : decode cX8_letter 5 = .ok (.invokestatic 99, 3) := by decide +kernel
theorem dX8_letter_8 : decode cX8_letter 8 = .ok (.ifCond .ne 6, 3) := by decide +kernel
theorem dX8_letter_11 : decode cX8_letter 11 = .ok (.bipush (-102), 2) := by decide +kernel
theorem dX8_letter_13 : decode cX8_letter 13 = .ok (.ireturn, 1) := by decide +kernel
theorem dX8_letter_14 : decode cX8_letter 14 = .ok (.aload_n 0, 1) := by decide +kernel
theorem dX8_letter_15 : decode cX8_letter 15 = .ok (.getfield 103, 3) := by decide +kernel
theorem dX8_letter_18 : decode cX8_letter 18 = .ok (.bipush 36, 2) := by decide +kernel
theorem dX8_letter_20 : decode cX8_letter 20 = .ok (.if_icmp .ne 6, 3) := by decide +kernel
theorem dX8_letter_23 : decode cX8_letter 23 = .ok (.bipush (-104), 2) := by decide +kernel
theorem dX8_letter_25 : decode cX8_letter 25 = .ok (.ireturn, 1) := by decide +kernel
theorem dX8_letter_26 : decode cX8_letter 26 = .ok (.aload_n 0, 1) := by decide +kernel
theorem dX8_letter_27 : decode cX8_letter 27 = .ok (.getfield 26, 3) := by decide +kernel
theorem dX8_letter_30 : decode cX8_letter 30 = .ok (.aload_n 0, 1) := by decide +kernel
theorem dX8_letter_31 : decode cX8_letter 31 = .ok (.getfield 103, 3) := by decide +kernel
theorem dX8_letter_34 : decode cX8_letter 34 = .ok (.iload_n 1, 1) := by decide +kernel
theorem dX8_letter_35 : decode cX8_letter 35 = .ok (.i2b, 1) := by decide +kernel
theorem dX8_letter_36 : decode cX8_letter 36 = .ok (.bastore, 1) := by decide +kernel
theorem dX8_letter_37 : decode cX8_letter 37 = .ok (.aload_n 0, 1) := by decide +kernel
theorem dX8_letter_38 : decode cX8_letter 38 = .ok (.dup, 1) := by decide +kernel
theorem dX8_letter_39 : decode cX8_letter 39 = .ok (.getfield 103, 3) := by decide +kernel
theorem dX8_letter_42 : decode cX8_letter 42 = .ok (.iconst 1, 1) := by decide +kernel
theorem dX8_letter_43 : decode cX8_letter 43 = .ok (.iadd, 1) := by decide +kernel
theorem dX8_letter_44 : decode cX8_letter 44 = .ok (.putfield 103, 3) := by decide +kernel
theorem dX8_letter_47 : decode cX8_letter 47 = .ok (.aload_n 0, 1) := by decide +kernel
theorem dX8_letter_48 : decode cX8_letter 48 = .ok (.getfield 103, 3) := by decide +kernel
theorem dX8_letter_51 : decode cX8_letter 51 = .ok (.ireturn, 1) := by decide +kernel
theorem dX8_blank_0 : decode cX8_blank 0 = .ok (.aload_n 0, 1) := by decide +kernel
theorem dX8_blank_1 : decode cX8_blank 1 = .ok (.getfield 103, 3) := by decide +kernel
theorem dX8_blank_4 : decode cX8_blank 4 = .ok (.istore_n 1, 1) := by decide +kernel
theorem dX8_blank_5 : decode cX8_blank 5 = .ok (.aload_n 0, 1) := by decide +kernel
theorem dX8_blank_6 : decode cX8_blank 6 = .ok (.iconst 0, 1) := by decide +kernel
theorem dX8_blank_7 : decode cX8_blank 7 = .ok (.putfield 103, 3) := by decide +kernel
theorem dX8_blank_10 : decode cX8_blank 10 = .ok (.iload_n 1, 1) := by decide +kernel
theorem dX8_blank_11 : decode cX8_blank 11 = .ok (.ireturn, 1) := by decide +kernel
theorem dX8_kindBy_0 : decode cX8_kindBy 0 = .ok (.iload_n 0, 1) := by decide +kernel
theorem dX8_kindBy_1 : decode cX8_kindBy 1 = .ok (.lookupswitch 61 #[(97, 55), (102, 59), (106, 51), (108, 53), (115, 57)], 51) := by decide +kernel
theorem dX8_kindBy_52 : decode cX8_kindBy 52 = .ok (.iconst 0, 1) := by decide +kernel
theorem dX8_kindBy_53 : decode cX8_kindBy 53 = .ok (.ireturn, 1) := by decide +kernel
theorem dX8_kindBy_54 : decode cX8_kindBy 54 = .ok (.iconst 1, 1) := by decide +kernel
theorem dX8_kindBy_55 : decode cX8_kindBy 55 = .ok (.ireturn, 1) := by decide +kernel
theorem dX8_kindBy_56 : decode cX8_kindBy 56 = .ok (.iconst 2, 1) := by decide +kernel
theorem dX8_kindBy_57 : decode cX8_kindBy 57 = .ok (.ireturn, 1) := by decide +kernel
theorem dX8_kindBy_58 : decode cX8_kindBy 58 = .ok (.iconst 3, 1) := by decide +kernel
theorem dX8_kindBy_59 : decode cX8_kindBy 59 = .ok (.ireturn, 1) := by decide +kernel
theorem dX8_kindBy_60 : decode cX8_kindBy 60 = .ok (.iconst 4, 1) := by decide +kernel
theorem dX8_kindBy_61 : decode cX8_kindBy 61 = .ok (.ireturn, 1) := by decide +kernel
theorem dX8_kindBy_62 : decode cX8_kindBy 62 = .ok (.iconst (-1), 1) := by decide +kernel
theorem dX8_kindBy_63 : decode cX8_kindBy 63 = .ok (.ireturn, 1) := by decide +kernel
theorem dX8_at_0 : decode cX8_at 0 = .ok (.iload_n 1, 1) := by decide +kernel
theorem dX8_at_1 : decode cX8_at 1 = .ok (.aload_n 0, 1) := by decide +kernel
theorem dX8_at_2 : decode cX8_at 2 = .ok (.getfield 103, 3) := by decide +kernel
theorem dX8_at_5 : decode cX8_at 5 = .ok (.if_icmp .ge 12, 3) := by decide +kernel
theorem dX8_at_8 : decode cX8_at 8 = .ok (.aload_n 0, 1) := by decide +kernel
theorem dX8_at_9 : decode cX8_at 9 = .ok (.getfield 26, 3) := by decide +kernel
theorem dX8_at_12 : decode cX8_at 12 = .ok (.iload_n 1, 1) := by decide +kernel
theorem dX8_at_13 : decode cX8_at 13 = .ok (.baload, 1) := by decide +kernel
theorem dX8_at_14 : decode cX8_at 14 = .ok (.goto 4, 3) := by decide +kernel
theorem dX8_at_17 : decode cX8_at 17 = .ok (.iconst 0, 1) := by decide +kernel
theorem dX8_at_18 : decode cX8_at 18 = .ok (.ireturn, 1) := by decide +kernel
theorem dX8_isRowAt_0 : decode cX8_isRowAt 0 = .ok (.aload_n 0, 1) := by decide +kernel
theorem dX8_isRowAt_1 : decode cX8_isRowAt 1 = .ok (.iload_n 1, 1) := by decide +kernel
theorem dX8_isRowAt_2 : decode cX8_isRowAt 2 = .ok (.invokevirtual 106, 3) := by decide +kernel
theorem dX8_isRowAt_5 : decode cX8_isRowAt 5 = .ok (.bipush 45, 2) := by decide +kernel
theorem dX8_isRowAt_7 : decode cX8_isRowAt 7 = .ok (.if_icmp .eq 20, 3) := by decide +kernel
theorem dX8_isRowAt_10 : decode cX8_isRowAt 10 = .ok (.aload_n 0, 1) := by decide +kernel
theorem dX8_isRowAt_11 : decode cX8_isRowAt 11 = .ok (.iload_n 1, 1) := by decide +kernel
theorem dX8_isRowAt_12 : decode cX8_isRowAt 12 = .ok (.invokevirtual 106, 3) := by decide +kernel
theorem dX8_isRowAt_15 : decode cX8_isRowAt 15 = .ok (.bipush 97, 2) := by decide +kernel
theorem dX8_isRowAt_17 : decode cX8_isRowAt 17 = .ok (.isub, 1) := by decide +kernel
theorem dX8_isRowAt_18 : decode cX8_isRowAt 18 = .ok (.iconst 0, 1) := by decide +kernel
theorem dX8_isRowAt_19 : decode cX8_isRowAt 19 = .ok (.bipush 15, 2) := by decide +kernel
theorem dX8_isRowAt_21 : decode cX8_isRowAt 21 = .ok (.invokestatic 99, 3) := by decide +kernel
theorem dX8_isRowAt_24 : decode cX8_isRowAt 24 = .ok (.ifCond .eq 7, 3) := by decide +kernel
theorem dX8_isRowAt_27 : decode cX8_isRowAt 27 = .ok (.iconst 1, 1) := by decide +kernel
theorem dX8_isRowAt_28 : decode cX8_isRowAt 28 = .ok (.goto 4, 3) := by decide +kernel
theorem dX8_isRowAt_31 : decode cX8_isRowAt 31 = .ok (.iconst 0, 1) := by decide +kernel
theorem dX8_isRowAt_32 : decode cX8_isRowAt 32 = .ok (.ireturn, 1) := by decide +kernel
theorem dX8_rowsFrom_0 : decode cX8_rowsFrom 0 = .ok (.iconst 0, 1) := by decide +kernel
theorem dX8_rowsFrom_1 : decode cX8_rowsFrom 1 = .ok (.istore_n 2, 1) := by decide +kernel
theorem dX8_rowsFrom_2 : decode cX8_rowsFrom 2 = .ok (.iload_n 2, 1) := by decide +kernel
theorem dX8_rowsFrom_3 : decode cX8_rowsFrom 3 = .ok (.bipush 14, 2) := by decide +kernel
theorem dX8_rowsFrom_5 : decode cX8_rowsFrom 5 = .ok (.if_icmp .ge 19, 3) := by decide +kernel
theorem dX8_rowsFrom_8 : decode cX8_rowsFrom 8 = .ok (.aload_n 0, 1) := by decide +kernel
theorem dX8_rowsFrom_9 : decode cX8_rowsFrom 9 = .ok (.iload_n 1, 1) := by decide +kernel
theorem dX8_rowsFrom_10 : decode cX8_rowsFrom 10 = .ok (.iload_n 2, 1) := by decide +kernel
theorem dX8_rowsFrom_11 : decode cX8_rowsFrom 11 = .ok (.iadd, 1) := by decide +kernel
theorem dX8_rowsFrom_12 : decode cX8_rowsFrom 12 = .ok (.invokevirtual 110, 3) := by decide +kernel
theorem dX8_rowsFrom_15 : decode cX8_rowsFrom 15 = .ok (.ifCond .eq 9, 3) := by decide +kernel
theorem dX8_rowsFrom_18 : decode cX8_rowsFrom 18 = .ok (.iinc 2 1, 3) := by decide +kernel
theorem dX8_rowsFrom_21 : decode cX8_rowsFrom 21 = .ok (.goto (-19), 3) := by decide +kernel
theorem dX8_rowsFrom_24 : decode cX8_rowsFrom 24 = .ok (.iload_n 2, 1) := by decide +kernel
theorem dX8_rowsFrom_25 : decode cX8_rowsFrom 25 = .ok (.ireturn, 1) := by decide +kernel
theorem dX8_read_0 : decode cX8_read 0 = .ok (.aload_n 0, 1) := by decide +kernel
theorem dX8_read_1 : decode cX8_read 1 = .ok (.iconst 0, 1) := by decide +kernel
theorem dX8_read_2 : decode cX8_read 2 = .ok (.putfield 114, 3) := by decide +kernel
theorem dX8_read_5 : decode cX8_read 5 = .ok (.aload_n 0, 1) := by decide +kernel
theorem dX8_read_6 : decode cX8_read 6 = .ok (.iconst 0, 1) := by decide +kernel
theorem dX8_read_7 : decode cX8_read 7 = .ok (.invokevirtual 106, 3) := by decide +kernel
theorem dX8_read_10 : decode cX8_read 10 = .ok (.bipush 48, 2) := by decide +kernel
theorem dX8_read_12 : decode cX8_read 12 = .ok (.isub, 1) := by decide +kernel
theorem dX8_read_13 : decode cX8_read 13 = .ok (.iconst 1, 1) := by decide +kernel
theorem dX8_read_14 : decode cX8_read 14 = .ok (.bipush 9, 2) := by decide +kernel
theorem dX8_read_16 : decode cX8_read 16 = .ok (.invokestatic 99, 3) := by decide +kernel
theorem dX8_read_19 : decode cX8_read 19 = .ok (.ifCond .ne 5, 3) := by decide +kernel
theorem dX8_read_22 : decode cX8_read 22 = .ok (.iconst 0, 1) := by decide +kernel
theorem dX8_read_23 : decode cX8_read 23 = .ok (.ireturn, 1) := by decide +kernel
theorem dX8_read_24 : decode cX8_read 24 = .ok (.aload_n 0, 1) := by decide +kernel
theorem dX8_read_25 : decode cX8_read 25 = .ok (.iconst 1, 1) := by decide +kernel
theorem dX8_read_26 : decode cX8_read 26 = .ok (.invokevirtual 106, 3) := by decide +kernel
theorem dX8_read_29 : decode cX8_read 29 = .ok (.invokestatic 118, 3) := by decide +kernel
theorem dX8_read_32 : decode cX8_read 32 = .ok (.iconst (-1), 1) := by decide +kernel
theorem dX8_read_33 : decode cX8_read 33 = .ok (.if_icmp .ne 5, 3) := by decide +kernel
theorem dX8_read_36 : decode cX8_read 36 = .ok (.iconst 1, 1) := by decide +kernel
theorem dX8_read_37 : decode cX8_read 37 = .ok (.ireturn, 1) := by decide +kernel
theorem dX8_read_38 : decode cX8_read 38 = .ok (.aload_n 0, 1) := by decide +kernel
theorem dX8_read_39 : decode cX8_read 39 = .ok (.iconst 2, 1) := by decide +kernel
theorem dX8_read_40 : decode cX8_read 40 = .ok (.invokevirtual 106, 3) := by decide +kernel
theorem dX8_read_43 : decode cX8_read 43 = .ok (.bipush 59, 2) := by decide +kernel
theorem dX8_read_45 : decode cX8_read 45 = .ok (.if_icmp .eq 5, 3) := by decide +kernel
theorem dX8_read_48 : decode cX8_read 48 = .ok (.iconst 2, 1) := by decide +kernel
theorem dX8_read_49 : decode cX8_read 49 = .ok (.ireturn, 1) := by decide +kernel
theorem dX8_read_50 : decode cX8_read 50 = .ok (.aload_n 0, 1) := by decide +kernel
theorem dX8_read_51 : decode cX8_read 51 = .ok (.aload_n 0, 1) := by decide +kernel
theorem dX8_read_52 : decode cX8_read 52 = .ok (.iconst 3, 1) := by decide +kernel
theorem dX8_read_53 : decode cX8_read 53 = .ok (.invokevirtual 121, 3) := by decide +kernel
theorem dX8_read_56 : decode cX8_read 56 = .ok (.putfield 124, 3) := by decide +kernel
theorem dX8_read_59 : decode cX8_read 59 = .ok (.iconst 3, 1) := by decide +kernel
theorem dX8_read_60 : decode cX8_read 60 = .ok (.aload_n 0, 1) := by decide +kernel
theorem dX8_read_61 : decode cX8_read 61 = .ok (.getfield 124, 3) := by decide +kernel
theorem dX8_read_64 : decode cX8_read 64 = .ok (.iadd, 1) := by decide +kernel
theorem dX8_read_65 : decode cX8_read 65 = .ok (.istore_n 1, 1) := by decide +kernel
theorem dX8_read_66 : decode cX8_read 66 = .ok (.aload_n 0, 1) := by decide +kernel
theorem dX8_read_67 : decode cX8_read 67 = .ok (.iload_n 1, 1) := by decide +kernel
theorem dX8_read_68 : decode cX8_read 68 = .ok (.invokevirtual 106, 3) := by decide +kernel
theorem dX8_read_71 : decode cX8_read 71 = .ok (.bipush 59, 2) := by decide +kernel
theorem dX8_read_73 : decode cX8_read 73 = .ok (.if_icmp .eq 5, 3) := by decide +kernel
theorem dX8_read_76 : decode cX8_read 76 = .ok (.iload_n 1, 1) := by decide +kernel
theorem dX8_read_77 : decode cX8_read 77 = .ok (.ireturn, 1) := by decide +kernel
theorem dX8_read_78 : decode cX8_read 78 = .ok (.aload_n 0, 1) := by decide +kernel
theorem dX8_read_79 : decode cX8_read 79 = .ok (.aload_n 0, 1) := by decide +kernel
theorem dX8_read_80 : decode cX8_read 80 = .ok (.iload_n 1, 1) := by decide +kernel
theorem dX8_read_81 : decode cX8_read 81 = .ok (.iconst 1, 1) := by decide +kernel
theorem dX8_read_82 : decode cX8_read 82 = .ok (.iadd, 1) := by decide +kernel
theorem dX8_read_83 : decode cX8_read 83 = .ok (.invokevirtual 121, 3) := by decide +kernel
theorem dX8_read_86 : decode cX8_read 86 = .ok (.putfield 127, 3) := by decide +kernel
theorem dX8_read_89 : decode cX8_read 89 = .ok (.iload_n 1, 1) := by decide +kernel
theorem dX8_read_90 : decode cX8_read 90 = .ok (.iconst 1, 1) := by decide +kernel
theorem dX8_read_91 : decode cX8_read 91 = .ok (.aload_n 0, 1) := by decide +kernel
theorem dX8_read_92 : decode cX8_read 92 = .ok (.getfield 127, 3) := by decide +kernel
theorem dX8_read_95 : decode cX8_read 95 = .ok (.iadd, 1) := by decide +kernel
theorem dX8_read_96 : decode cX8_read 96 = .ok (.iadd, 1) := by decide +kernel
theorem dX8_read_97 : decode cX8_read 97 = .ok (.istore_n 1, 1) := by decide +kernel
theorem dX8_read_98 : decode cX8_read 98 = .ok (.aload_n 0, 1) := by decide +kernel
theorem dX8_read_99 : decode cX8_read 99 = .ok (.iload_n 1, 1) := by decide +kernel
theorem dX8_read_100 : decode cX8_read 100 = .ok (.aload_n 0, 1) := by decide +kernel
theorem dX8_read_101 : decode cX8_read 101 = .ok (.getfield 103, 3) := by decide +kernel
theorem dX8_read_104 : decode cX8_read 104 = .ok (.if_icmp .ne 7, 3) := by decide +kernel
theorem dX8_read_107 : decode cX8_read 107 = .ok (.iconst 1, 1) := by decide +kernel
theorem dX8_read_108 : decode cX8_read 108 = .ok (.goto 4, 3) := by decide +kernel
theorem dX8_read_111 : decode cX8_read 111 = .ok (.iconst 0, 1) := by decide +kernel
theorem dX8_read_112 : decode cX8_read 112 = .ok (.putfield 114, 3) := by decide +kernel
theorem dX8_read_115 : decode cX8_read 115 = .ok (.iload_n 1, 1) := by decide +kernel
theorem dX8_read_116 : decode cX8_read 116 = .ok (.ireturn, 1) := by decide +kernel
theorem dX8_fault_0 : decode cX8_fault 0 = .ok (.aload_n 0, 1) := by decide +kernel
theorem dX8_fault_1 : decode cX8_fault 1 = .ok (.invokevirtual 130, 3) := by decide +kernel
theorem dX8_fault_4 : decode cX8_fault 4 = .ok (.ireturn, 1) := by decide +kernel
theorem dX8_keyBy_0 : decode cX8_keyBy 0 = .ok (.iload_n 0, 1) := by decide +kernel
theorem dX8_keyBy_1 : decode cX8_keyBy 1 = .ok (.bipush 45, 2) := by decide +kernel
theorem dX8_keyBy_3 : decode cX8_keyBy 3 = .ok (.if_icmp .ne 7, 3) := by decide +kernel
theorem dX8_keyBy_6 : decode cX8_keyBy 6 = .ok (.iconst (-1), 1) := by decide +kernel
theorem dX8_keyBy_7 : decode cX8_keyBy 7 = .ok (.goto 7, 3) := by decide +kernel
theorem dX8_keyBy_10 : decode cX8_keyBy 10 = .ok (.iload_n 0, 1) := by decide +kernel
theorem dX8_keyBy_11 : decode cX8_keyBy 11 = .ok (.bipush 97, 2) := by decide +kernel
theorem dX8_keyBy_13 : decode cX8_keyBy 13 = .ok (.isub, 1) := by decide +kernel
theorem dX8_keyBy_14 : decode cX8_keyBy 14 = .ok (.ireturn, 1) := by decide +kernel
theorem dX8_tables_0 : decode cX8_tables 0 = .ok (.aload_n 0, 1) := by decide +kernel
theorem dX8_tables_1 : decode cX8_tables 1 = .ok (.invokevirtual 130, 3) := by decide +kernel
theorem dX8_tables_4 : decode cX8_tables 4 = .ok (.pop, 1) := by decide +kernel
theorem dX8_tables_5 : decode cX8_tables 5 = .ok (.aload_n 0, 1) := by decide +kernel
theorem dX8_tables_6 : decode cX8_tables 6 = .ok (.getfield 114, 3) := by decide +kernel
theorem dX8_tables_9 : decode cX8_tables 9 = .ok (.ifCond .ne 6, 3) := by decide +kernel
theorem dX8_tables_12 : decode cX8_tables 12 = .ok (.bipush (-103), 2) := by decide +kernel
theorem dX8_tables_14 : decode cX8_tables 14 = .ok (.ireturn, 1) := by decide +kernel
theorem dX8_tables_15 : decode cX8_tables 15 = .ok (.aload_n 0, 1) := by decide +kernel
theorem dX8_tables_16 : decode cX8_tables 16 = .ok (.aload_n 0, 1) := by decide +kernel
theorem dX8_tables_17 : decode cX8_tables 17 = .ok (.getfield 26, 3) := by decide +kernel
theorem dX8_tables_20 : decode cX8_tables 20 = .ok (.iconst 0, 1) := by decide +kernel
theorem dX8_tables_21 : decode cX8_tables 21 = .ok (.baload, 1) := by decide +kernel
theorem dX8_tables_22 : decode cX8_tables 22 = .ok (.bipush 48, 2) := by decide +kernel
theorem dX8_tables_24 : decode cX8_tables 24 = .ok (.isub, 1) := by decide +kernel
theorem dX8_tables_25 : decode cX8_tables 25 = .ok (.putfield 134, 3) := by decide +kernel
theorem dX8_tables_28 : decode cX8_tables 28 = .ok (.aload_n 0, 1) := by decide +kernel
theorem dX8_tables_29 : decode cX8_tables 29 = .ok (.aload_n 0, 1) := by decide +kernel
theorem dX8_tables_30 : decode cX8_tables 30 = .ok (.getfield 26, 3) := by decide +kernel
theorem dX8_tables_33 : decode cX8_tables 33 = .ok (.iconst 1, 1) := by decide +kernel
theorem dX8_tables_34 : decode cX8_tables 34 = .ok (.baload, 1) := by decide +kernel
theorem dX8_tables_35 : decode cX8_tables 35 = .ok (.invokestatic 118, 3) := by decide +kernel
theorem dX8_tables_38 : decode cX8_tables 38 = .ok (.putfield 9, 3) := by decide +kernel
theorem dX8_tables_41 : decode cX8_tables 41 = .ok (.aload_n 0, 1) := by decide +kernel
theorem dX8_tables_42 : decode cX8_tables 42 = .ok (.getfield 17, 3) := by decide +kernel
theorem dX8_tables_45 : decode cX8_tables 45 = .ok (.iconst 0, 1) := by decide +kernel
theorem dX8_tables_46 : decode cX8_tables 46 = .ok (.aload_n 0, 1) := by decide +kernel
theorem dX8_tables_47 : decode cX8_tables 47 = .ok (.getfield 124, 3) := by decide +kernel
theorem dX8_tables_50 : decode cX8_tables 50 = .ok (.iastore, 1) := by decide +kernel
theorem dX8_tables_51 : decode cX8_tables 51 = .ok (.aload_n 0, 1) := by decide +kernel
theorem dX8_tables_52 : decode cX8_tables 52 = .ok (.getfield 17, 3) := by decide +kernel
theorem dX8_tables_55 : decode cX8_tables 55 = .ok (.iconst 1, 1) := by decide +kernel
theorem dX8_tables_56 : decode cX8_tables 56 = .ok (.aload_n 0, 1) := by decide +kernel
theorem dX8_tables_57 : decode cX8_tables 57 = .ok (.getfield 127, 3) := by decide +kernel
theorem dX8_tables_60 : decode cX8_tables 60 = .ok (.iastore, 1) := by decide +kernel
theorem dX8_tables_61 : decode cX8_tables 61 = .ok (.iconst 0, 1) := by decide +kernel
theorem dX8_tables_62 : decode cX8_tables 62 = .ok (.istore_n 1, 1) := by decide +kernel
theorem dX8_tables_63 : decode cX8_tables 63 = .ok (.iload_n 1, 1) := by decide +kernel
theorem dX8_tables_64 : decode cX8_tables 64 = .ok (.aload_n 0, 1) := by decide +kernel
theorem dX8_tables_65 : decode cX8_tables 65 = .ok (.getfield 124, 3) := by decide +kernel
theorem dX8_tables_68 : decode cX8_tables 68 = .ok (.if_icmp .ge 26, 3) := by decide +kernel
theorem dX8_tables_71 : decode cX8_tables 71 = .ok (.aload_n 0, 1) := by decide +kernel
theorem dX8_tables_72 : decode cX8_tables 72 = .ok (.getfield 13, 3) := by decide +kernel
theorem dX8_tables_75 : decode cX8_tables 75 = .ok (.iload_n 1, 1) := by decide +kernel
theorem dX8_tables_76 : decode cX8_tables 76 = .ok (.aload_n 0, 1) := by decide +kernel
theorem dX8_tables_77 : decode cX8_tables 77 = .ok (.getfield 26, 3) := by decide +kernel
theorem dX8_tables_80 : decode cX8_tables 80 = .ok (.iconst 3, 1) := by decide +kernel
theorem dX8_tables_81 : decode cX8_tables 81 = .ok (.iload_n 1, 1) := by decide +kernel
theorem dX8_tables_82 : decode cX8_tables 82 = .ok (.iadd, 1) := by decide +kernel
theorem dX8_tables_83 : decode cX8_tables 83 = .ok (.baload, 1) := by decide +kernel
theorem dX8_tables_84 : decode cX8_tables 84 = .ok (.invokestatic 137, 3) := by decide +kernel
theorem dX8_tables_87 : decode cX8_tables 87 = .ok (.iastore, 1) := by decide +kernel
theorem dX8_tables_88 : decode cX8_tables 88 = .ok (.iinc 1 1, 3) := by decide +kernel
theorem dX8_tables_91 : decode cX8_tables 91 = .ok (.goto (-28), 3) := by decide +kernel
theorem dX8_tables_94 : decode cX8_tables 94 = .ok (.iconst 0, 1) := by decide +kernel
theorem dX8_tables_95 : decode cX8_tables 95 = .ok (.istore_n 1, 1) := by decide +kernel
theorem dX8_tables_96 : decode cX8_tables 96 = .ok (.iload_n 1, 1) := by decide +kernel
theorem dX8_tables_97 : decode cX8_tables 97 = .ok (.aload_n 0, 1) := by decide +kernel
theorem dX8_tables_98 : decode cX8_tables 98 = .ok (.getfield 127, 3) := by decide +kernel
theorem dX8_tables_101 : decode cX8_tables 101 = .ok (.if_icmp .ge 34, 3) := by decide +kernel
theorem dX8_tables_104 : decode cX8_tables 104 = .ok (.aload_n 0, 1) := by decide +kernel
theorem dX8_tables_105 : decode cX8_tables 105 = .ok (.getfield 13, 3) := by decide +kernel
theorem dX8_tables_108 : decode cX8_tables 108 = .ok (.bipush 14, 2) := by decide +kernel
theorem dX8_tables_110 : decode cX8_tables 110 = .ok (.iload_n 1, 1) := by decide +kernel
theorem dX8_tables_111 : decode cX8_tables 111 = .ok (.iadd, 1) := by decide +kernel
theorem dX8_tables_112 : decode cX8_tables 112 = .ok (.aload_n 0, 1) := by decide +kernel
theorem dX8_tables_113 : decode cX8_tables 113 = .ok (.getfield 26, 3) := by decide +kernel
theorem dX8_tables_116 : decode cX8_tables 116 = .ok (.iconst 4, 1) := by decide +kernel
theorem dX8_tables_117 : decode cX8_tables 117 = .ok (.aload_n 0, 1) := by decide +kernel
theorem dX8_tables_118 : decode cX8_tables 118 = .ok (.getfield 124, 3) := by decide +kernel
theorem dX8_tables_121 : decode cX8_tables 121 = .ok (.iadd, 1) := by decide +kernel
theorem dX8_tables_122 : decode cX8_tables 122 = .ok (.iload_n 1, 1) := by decide +kernel
theorem dX8_tables_123 : decode cX8_tables 123 = .ok (.iadd, 1) := by decide +kernel
theorem dX8_tables_124 : decode cX8_tables 124 = .ok (.baload, 1) := by decide +kernel
theorem dX8_tables_125 : decode cX8_tables 125 = .ok (.invokestatic 137, 3) := by decide +kernel
theorem dX8_tables_128 : decode cX8_tables 128 = .ok (.iastore, 1) := by decide +kernel
theorem dX8_tables_129 : decode cX8_tables 129 = .ok (.iinc 1 1, 3) := by decide +kernel
theorem dX8_tables_132 : decode cX8_tables 132 = .ok (.goto (-36), 3) := by decide +kernel
theorem dX8_tables_135 : decode cX8_tables 135 = .ok (.aload_n 0, 1) := by decide +kernel
theorem dX8_tables_136 : decode cX8_tables 136 = .ok (.iconst 0, 1) := by decide +kernel
theorem dX8_tables_137 : decode cX8_tables 137 = .ok (.putfield 140, 3) := by decide +kernel
theorem dX8_tables_140 : decode cX8_tables 140 = .ok (.aload_n 0, 1) := by decide +kernel
theorem dX8_tables_141 : decode cX8_tables 141 = .ok (.invokevirtual 96, 3) := by decide +kernel
theorem dX8_tables_144 : decode cX8_tables 144 = .ok (.aload_n 0, 1) := by decide +kernel
theorem dX8_tables_145 : decode cX8_tables 145 = .ok (.dup, 1) := by decide +kernel
theorem dX8_tables_146 : decode cX8_tables 146 = .ok (.getfield 143, 3) := by decide +kernel
theorem dX8_tables_149 : decode cX8_tables 149 = .ok (.iconst 1, 1) := by decide +kernel
theorem dX8_tables_150 : decode cX8_tables 150 = .ok (.iadd, 1) := by decide +kernel
theorem dX8_tables_151 : decode cX8_tables 151 = .ok (.putfield 143, 3) := by decide +kernel
theorem dX8_tables_154 : decode cX8_tables 154 = .ok (.aload_n 0, 1) := by decide +kernel
theorem dX8_tables_155 : decode cX8_tables 155 = .ok (.iconst 0, 1) := by decide +kernel
theorem dX8_tables_156 : decode cX8_tables 156 = .ok (.putfield 146, 3) := by decide +kernel
theorem dX8_tables_159 : decode cX8_tables 159 = .ok (.aload_n 0, 1) := by decide +kernel
theorem dX8_tables_160 : decode cX8_tables 160 = .ok (.iconst 0, 1) := by decide +kernel
theorem dX8_tables_161 : decode cX8_tables 161 = .ok (.putfield 103, 3) := by decide +kernel
theorem dX8_tables_164 : decode cX8_tables 164 = .ok (.aload_n 0, 1) := by decide +kernel
theorem dX8_tables_165 : decode cX8_tables 165 = .ok (.getfield 17, 3) := by decide +kernel
theorem dX8_tables_168 : decode cX8_tables 168 = .ok (.iconst 0, 1) := by decide +kernel
theorem dX8_tables_169 : decode cX8_tables 169 = .ok (.iaload, 1) := by decide +kernel
theorem dX8_tables_170 : decode cX8_tables 170 = .ok (.aload_n 0, 1) := by decide +kernel
theorem dX8_tables_171 : decode cX8_tables 171 = .ok (.getfield 17, 3) := by decide +kernel
theorem dX8_tables_174 : decode cX8_tables 174 = .ok (.iconst 1, 1) := by decide +kernel
theorem dX8_tables_175 : decode cX8_tables 175 = .ok (.iaload, 1) := by decide +kernel
theorem dX8_tables_176 : decode cX8_tables 176 = .ok (.iadd, 1) := by decide +kernel
theorem dX8_tables_177 : decode cX8_tables 177 = .ok (.ireturn, 1) := by decide +kernel
theorem dX8_isSide_0 : decode cX8_isSide 0 = .ok (.iload_n 0, 1) := by decide +kernel
theorem dX8_isSide_1 : decode cX8_isSide 1 = .ok (.iconst 0, 1) := by decide +kernel
theorem dX8_isSide_2 : decode cX8_isSide 2 = .ok (.iconst 1, 1) := by decide +kernel
theorem dX8_isSide_3 : decode cX8_isSide 3 = .ok (.invokestatic 99, 3) := by decide +kernel
theorem dX8_isSide_6 : decode cX8_isSide 6 = .ok (.ireturn, 1) := by decide +kernel
theorem dX8_isRow_0 : decode cX8_isRow 0 = .ok (.iload_n 1, 1) := by decide +kernel
theorem dX8_isRow_1 : decode cX8_isRow 1 = .ok (.invokestatic 149, 3) := by decide +kernel
theorem dX8_isRow_4 : decode cX8_isRow 4 = .ok (.ifCond .eq 23, 3) := by decide +kernel
theorem dX8_isRow_7 : decode cX8_isRow 7 = .ok (.iload_n 2, 1) := by decide +kernel
theorem dX8_isRow_8 : decode cX8_isRow 8 = .ok (.iconst 0, 1) := by decide +kernel
theorem dX8_isRow_9 : decode cX8_isRow 9 = .ok (.aload_n 0, 1) := by decide +kernel
theorem dX8_isRow_10 : decode cX8_isRow 10 = .ok (.getfield 17, 3) := by decide +kernel
theorem dX8_isRow_13 : decode cX8_isRow 13 = .ok (.iload_n 1, 1) := by decide +kernel
theorem dX8_isRow_14 : decode cX8_isRow 14 = .ok (.iaload, 1) := by decide +kernel
theorem dX8_isRow_15 : decode cX8_isRow 15 = .ok (.iconst 1, 1) := by decide +kernel
theorem dX8_isRow_16 : decode cX8_isRow 16 = .ok (.isub, 1) := by decide +kernel
theorem dX8_isRow_17 : decode cX8_isRow 17 = .ok (.invokestatic 99, 3) := by decide +kernel
theorem dX8_isRow_20 : decode cX8_isRow 20 = .ok (.ifCond .eq 7, 3) := by decide +kernel
theorem dX8_isRow_23 : decode cX8_isRow 23 = .ok (.iconst 1, 1) := by decide +kernel
theorem dX8_isRow_24 : decode cX8_isRow 24 = .ok (.goto 4, 3) := by decide +kernel
theorem dX8_isRow_27 : decode cX8_isRow 27 = .ok (.iconst 0, 1) := by decide +kernel
theorem dX8_isRow_28 : decode cX8_isRow 28 = .ok (.ireturn, 1) := by decide +kernel
theorem dX8_keyAt_0 : decode cX8_keyAt 0 = .ok (.aload_n 0, 1) := by decide +kernel
theorem dX8_keyAt_1 : decode cX8_keyAt 1 = .ok (.getfield 13, 3) := by decide +kernel
theorem dX8_keyAt_4 : decode cX8_keyAt 4 = .ok (.bipush 14, 2) := by decide +kernel
theorem dX8_keyAt_6 : decode cX8_keyAt 6 = .ok (.iload_n 1, 1) := by decide +kernel
theorem dX8_keyAt_7 : decode cX8_keyAt 7 = .ok (.imul, 1) := by decide +kernel
theorem dX8_keyAt_8 : decode cX8_keyAt 8 = .ok (.iload_n 2, 1) := by decide +kernel
theorem dX8_keyAt_9 : decode cX8_keyAt 9 = .ok (.iadd, 1) := by decide +kernel
theorem dX8_keyAt_10 : decode cX8_keyAt 10 = .ok (.iaload, 1) := by decide +kernel
theorem dX8_keyAt_11 : decode cX8_keyAt 11 = .ok (.ireturn, 1) := by decide +kernel
theorem dX8_partnersOf_0 : decode cX8_partnersOf 0 = .ok (.iconst 0, 1) := by decide +kernel
theorem dX8_partnersOf_1 : decode cX8_partnersOf 1 = .ok (.istore_n 3, 1) := by decide +kernel
theorem dX8_partnersOf_2 : decode cX8_partnersOf 2 = .ok (.iconst 0, 1) := by decide +kernel
theorem dX8_partnersOf_3 : decode cX8_partnersOf 3 = .ok (.istore 4, 2) := by decide +kernel
theorem dX8_partnersOf_5 : decode cX8_partnersOf 5 = .ok (.iload 4, 2) := by decide +kernel
theorem dX8_partnersOf_7 : decode cX8_partnersOf 7 = .ok (.aload_n 0, 1) := by decide +kernel
theorem dX8_partnersOf_8 : decode cX8_partnersOf 8 = .ok (.getfield 17, 3) := by decide +kernel
theorem dX8_partnersOf_11 : decode cX8_partnersOf 11 = .ok (.iconst 1, 1) := by decide +kernel
theorem dX8_partnersOf_12 : decode cX8_partnersOf 12 = .ok (.iload_n 1, 1) := by decide +kernel
theorem dX8_partnersOf_13 : decode cX8_partnersOf 13 = .ok (.isub, 1) := by decide +kernel
theorem dX8_partnersOf_14 : decode cX8_partnersOf 14 = .ok (.iaload, 1) := by decide +kernel
theorem dX8_partnersOf_15 : decode cX8_partnersOf 15 = .ok (.if_icmp .ge 45, 3) := by decide +kernel
theorem dX8_partnersOf_18 : decode cX8_partnersOf 18 = .ok (.iload_n 3, 1) := by decide +kernel
theorem dX8_partnersOf_19 : decode cX8_partnersOf 19 = .ok (.aload_n 0, 1) := by decide +kernel
theorem dX8_partnersOf_20 : decode cX8_partnersOf 20 = .ok (.iload_n 1, 1) := by decide +kernel
theorem dX8_partnersOf_21 : decode cX8_partnersOf 21 = .ok (.iload_n 2, 1) := by decide +kernel
theorem dX8_partnersOf_22 : decode cX8_partnersOf 22 = .ok (.invokevirtual 152, 3) := by decide +kernel
theorem dX8_partnersOf_25 : decode cX8_partnersOf 25 = .ok (.iconst (-1), 1) := by decide +kernel
theorem dX8_partnersOf_26 : decode cX8_partnersOf 26 = .ok (.if_icmp .eq 25, 3) := by decide +kernel
theorem dX8_partnersOf_29 : decode cX8_partnersOf 29 = .ok (.aload_n 0, 1) := by decide +kernel
theorem dX8_partnersOf_30 : decode cX8_partnersOf 30 = .ok (.iconst 1, 1) := by decide +kernel
theorem dX8_partnersOf_31 : decode cX8_partnersOf 31 = .ok (.iload_n 1, 1) := by decide +kernel
theorem dX8_partnersOf_32 : decode cX8_partnersOf 32 = .ok (.isub, 1) := by decide +kernel
theorem dX8_partnersOf_33 : decode cX8_partnersOf 33 = .ok (.iload 4, 2) := by decide +kernel
theorem dX8_partnersOf_35 : decode cX8_partnersOf 35 = .ok (.invokevirtual 152, 3) := by decide +kernel
theorem dX8_partnersOf_38 : decode cX8_partnersOf 38 = .ok (.aload_n 0, 1) := by decide +kernel
theorem dX8_partnersOf_39 : decode cX8_partnersOf 39 = .ok (.iload_n 1, 1) := by decide +kernel
theorem dX8_partnersOf_40 : decode cX8_partnersOf 40 = .ok (.iload_n 2, 1) := by decide +kernel
theorem dX8_partnersOf_41 : decode cX8_partnersOf 41 = .ok (.invokevirtual 152, 3) := by decide +kernel
theorem dX8_partnersOf_44 : decode cX8_partnersOf 44 = .ok (.if_icmp .ne 7, 3) := by decide +kernel
theorem dX8_partnersOf_47 : decode cX8_partnersOf 47 = .ok (.iconst 1, 1) := by decide +kernel
theorem dX8_partnersOf_48 : decode cX8_partnersOf 48 = .ok (.goto 4, 3) := by decide +kernel
theorem dX8_partnersOf_51 : decode cX8_partnersOf 51 = .ok (.iconst 0, 1) := by decide +kernel
theorem dX8_partnersOf_52 : decode cX8_partnersOf 52 = .ok (.iadd, 1) := by decide +kernel
theorem dX8_partnersOf_53 : decode cX8_partnersOf 53 = .ok (.istore_n 3, 1) := by decide +kernel
theorem dX8_partnersOf_54 : decode cX8_partnersOf 54 = .ok (.iinc 4 1, 3) := by decide +kernel
theorem dX8_partnersOf_57 : decode cX8_partnersOf 57 = .ok (.goto (-52), 3) := by decide +kernel
theorem dX8_partnersOf_60 : decode cX8_partnersOf 60 = .ok (.iload_n 3, 1) := by decide +kernel
theorem dX8_partnersOf_61 : decode cX8_partnersOf 61 = .ok (.ireturn, 1) := by decide +kernel
theorem dX8_rowNow_0 : decode cX8_rowNow 0 = .ok (.iload_n 3, 1) := by decide +kernel
theorem dX8_rowNow_1 : decode cX8_rowNow 1 = .ok (.ifCond .ne 12, 3) := by decide +kernel
theorem dX8_rowNow_4 : decode cX8_rowNow 4 = .ok (.aload_n 0, 1) := by decide +kernel
theorem dX8_rowNow_5 : decode cX8_rowNow 5 = .ok (.iload_n 1, 1) := by decide +kernel
theorem dX8_rowNow_6 : decode cX8_rowNow 6 = .ok (.iload_n 2, 1) := by decide +kernel
theorem dX8_rowNow_7 : decode cX8_rowNow 7 = .ok (.invokevirtual 152, 3) := by decide +kernel
theorem dX8_rowNow_10 : decode cX8_rowNow 10 = .ok (.goto 9, 3) := by decide +kernel
theorem dX8_rowNow_13 : decode cX8_rowNow 13 = .ok (.aload_n 0, 1) := by decide +kernel
theorem dX8_rowNow_14 : decode cX8_rowNow 14 = .ok (.iload_n 1, 1) := by decide +kernel
theorem dX8_rowNow_15 : decode cX8_rowNow 15 = .ok (.iload_n 2, 1) := by decide +kernel
theorem dX8_rowNow_16 : decode cX8_rowNow 16 = .ok (.invokevirtual 156, 3) := by decide +kernel
theorem dX8_rowNow_19 : decode cX8_rowNow 19 = .ok (.ireturn, 1) := by decide +kernel
theorem dX8_row_0 : decode cX8_row 0 = .ok (.aload_n 0, 1) := by decide +kernel
theorem dX8_row_1 : decode cX8_row 1 = .ok (.iload_n 1, 1) := by decide +kernel
theorem dX8_row_2 : decode cX8_row 2 = .ok (.iload_n 2, 1) := by decide +kernel
theorem dX8_row_3 : decode cX8_row 3 = .ok (.invokevirtual 159, 3) := by decide +kernel
theorem dX8_row_6 : decode cX8_row 6 = .ok (.ifCond .ne 8, 3) := by decide +kernel
theorem dX8_row_9 : decode cX8_row 9 = .ok (.bipush (-101), 2) := by decide +kernel
theorem dX8_row_11 : decode cX8_row 11 = .ok (.goto 24, 3) := by decide +kernel
theorem dX8_row_14 : decode cX8_row 14 = .ok (.iload_n 3, 1) := by decide +kernel
theorem dX8_row_15 : decode cX8_row 15 = .ok (.iconst 0, 1) := by decide +kernel
theorem dX8_row_16 : decode cX8_row 16 = .ok (.iconst 1, 1) := by decide +kernel
theorem dX8_row_17 : decode cX8_row 17 = .ok (.invokestatic 99, 3) := by decide +kernel
theorem dX8_row_20 : decode cX8_row 20 = .ok (.ifCond .eq 13, 3) := by decide +kernel
theorem dX8_row_23 : decode cX8_row 23 = .ok (.aload_n 0, 1) := by decide +kernel
theorem dX8_row_24 : decode cX8_row 24 = .ok (.iload_n 1, 1) := by decide +kernel
theorem dX8_row_25 : decode cX8_row 25 = .ok (.iload_n 2, 1) := by decide +kernel
theorem dX8_row_26 : decode cX8_row 26 = .ok (.iload_n 3, 1) := by decide +kernel
theorem dX8_row_27 : decode cX8_row 27 = .ok (.invokevirtual 163, 3) := by decide +kernel
theorem dX8_row_30 : decode cX8_row 30 = .ok (.goto 5, 3) := by decide +kernel
theorem dX8_row_33 : decode cX8_row 33 = .ok (.bipush (-102), 2) := by decide +kernel
theorem dX8_row_35 : decode cX8_row 35 = .ok (.ireturn, 1) := by decide +kernel
theorem dX8_as_0 : decode cX8_as 0 = .ok (.iload_n 1, 1) := by decide +kernel
theorem dX8_as_1 : decode cX8_as 1 = .ok (.iconst 0, 1) := by decide +kernel
theorem dX8_as_2 : decode cX8_as 2 = .ok (.iconst 4, 1) := by decide +kernel
theorem dX8_as_3 : decode cX8_as 3 = .ok (.invokestatic 99, 3) := by decide +kernel
theorem dX8_as_6 : decode cX8_as 6 = .ok (.ifCond .ne 6, 3) := by decide +kernel
theorem dX8_as_9 : decode cX8_as 9 = .ok (.bipush (-102), 2) := by decide +kernel
theorem dX8_as_11 : decode cX8_as 11 = .ok (.ireturn, 1) := by decide +kernel
theorem dX8_as_12 : decode cX8_as 12 = .ok (.aload_n 0, 1) := by decide +kernel
theorem dX8_as_13 : decode cX8_as 13 = .ok (.getfield 143, 3) := by decide +kernel
theorem dX8_as_16 : decode cX8_as 16 = .ok (.ifCond .ne 6, 3) := by decide +kernel
theorem dX8_as_19 : decode cX8_as 19 = .ok (.bipush (-103), 2) := by decide +kernel
theorem dX8_as_21 : decode cX8_as 21 = .ok (.ireturn, 1) := by decide +kernel
theorem dX8_as_22 : decode cX8_as 22 = .ok (.iload_n 1, 1) := by decide +kernel
theorem dX8_as_23 : decode cX8_as 23 = .ok (.ifCond .eq 24, 3) := by decide +kernel
theorem dX8_as_26 : decode cX8_as 26 = .ok (.iload_n 1, 1) := by decide +kernel
theorem dX8_as_27 : decode cX8_as 27 = .ok (.aload_n 0, 1) := by decide +kernel
theorem dX8_as_28 : decode cX8_as 28 = .ok (.getfield 9, 3) := by decide +kernel
theorem dX8_as_31 : decode cX8_as 31 = .ok (.if_icmp .eq 16, 3) := by decide +kernel
theorem dX8_as_34 : decode cX8_as 34 = .ok (.iload_n 1, 1) := by decide +kernel
theorem dX8_as_35 : decode cX8_as 35 = .ok (.iconst 1, 1) := by decide +kernel
theorem dX8_as_36 : decode cX8_as 36 = .ok (.if_icmp .ne 18, 3) := by decide +kernel
theorem dX8_as_39 : decode cX8_as 39 = .ok (.aload_n 0, 1) := by decide +kernel
theorem dX8_as_40 : decode cX8_as 40 = .ok (.getfield 9, 3) := by decide +kernel
theorem dX8_as_43 : decode cX8_as 43 = .ok (.iconst 4, 1) := by decide +kernel
theorem dX8_as_44 : decode cX8_as 44 = .ok (.if_icmp .ne 10, 3) := by decide +kernel
theorem dX8_as_47 : decode cX8_as 47 = .ok (.aload_n 0, 1) := by decide +kernel
theorem dX8_as_48 : decode cX8_as 48 = .ok (.getfield 9, 3) := by decide +kernel
theorem dX8_as_51 : decode cX8_as 51 = .ok (.goto 4, 3) := by decide +kernel
theorem dX8_as_54 : decode cX8_as 54 = .ok (.iconst (-1), 1) := by decide +kernel
theorem dX8_as_55 : decode cX8_as 55 = .ok (.ireturn, 1) := by decide +kernel
theorem dX8_isKey_0 : decode cX8_isKey 0 = .ok (.iload_n 0, 1) := by decide +kernel
theorem dX8_isKey_1 : decode cX8_isKey 1 = .ok (.iconst (-1), 1) := by decide +kernel
theorem dX8_isKey_2 : decode cX8_isKey 2 = .ok (.bipush 15, 2) := by decide +kernel
theorem dX8_isKey_4 : decode cX8_isKey 4 = .ok (.invokestatic 99, 3) := by decide +kernel
theorem dX8_isKey_7 : decode cX8_isKey 7 = .ok (.ireturn, 1) := by decide +kernel
theorem dX8_put_0 : decode cX8_put 0 = .ok (.iload_n 1, 1) := by decide +kernel
theorem dX8_put_1 : decode cX8_put 1 = .ok (.invokestatic 149, 3) := by decide +kernel
theorem dX8_put_4 : decode cX8_put 4 = .ok (.ifCond .ne 6, 3) := by decide +kernel
theorem dX8_put_7 : decode cX8_put 7 = .ok (.bipush (-101), 2) := by decide +kernel
theorem dX8_put_9 : decode cX8_put 9 = .ok (.ireturn, 1) := by decide +kernel
theorem dX8_put_10 : decode cX8_put 10 = .ok (.iload_n 2, 1) := by decide +kernel
theorem dX8_put_11 : decode cX8_put 11 = .ok (.invokestatic 167, 3) := by decide +kernel
theorem dX8_put_14 : decode cX8_put 14 = .ok (.ifCond .ne 6, 3) := by decide +kernel
theorem dX8_put_17 : decode cX8_put 17 = .ok (.bipush (-102), 2) := by decide +kernel
theorem dX8_put_19 : decode cX8_put 19 = .ok (.ireturn, 1) := by decide +kernel
theorem dX8_put_20 : decode cX8_put 20 = .ok (.aload_n 0, 1) := by decide +kernel
theorem dX8_put_21 : decode cX8_put 21 = .ok (.getfield 143, 3) := by decide +kernel
theorem dX8_put_24 : decode cX8_put 24 = .ok (.ifCond .ne 6, 3) := by decide +kernel
theorem dX8_put_27 : decode cX8_put 27 = .ok (.bipush (-103), 2) := by decide +kernel
theorem dX8_put_29 : decode cX8_put 29 = .ok (.ireturn, 1) := by decide +kernel
theorem dX8_put_30 : decode cX8_put 30 = .ok (.aload_n 0, 1) := by decide +kernel
theorem dX8_put_31 : decode cX8_put 31 = .ok (.getfield 17, 3) := by decide +kernel
theorem dX8_put_34 : decode cX8_put 34 = .ok (.iload_n 1, 1) := by decide +kernel
theorem dX8_put_35 : decode cX8_put 35 = .ok (.iaload, 1) := by decide +kernel
theorem dX8_put_36 : decode cX8_put 36 = .ok (.bipush 14, 2) := by decide +kernel
theorem dX8_put_38 : decode cX8_put 38 = .ok (.if_icmp .ne 6, 3) := by decide +kernel
theorem dX8_put_41 : decode cX8_put 41 = .ok (.bipush (-104), 2) := by decide +kernel
theorem dX8_put_43 : decode cX8_put 43 = .ok (.ireturn, 1) := by decide +kernel
theorem dX8_put_44 : decode cX8_put 44 = .ok (.aload_n 0, 1) := by decide +kernel
theorem dX8_put_45 : decode cX8_put 45 = .ok (.getfield 13, 3) := by decide +kernel
theorem dX8_put_48 : decode cX8_put 48 = .ok (.bipush 14, 2) := by decide +kernel
theorem dX8_put_50 : decode cX8_put 50 = .ok (.iload_n 1, 1) := by decide +kernel
theorem dX8_put_51 : decode cX8_put 51 = .ok (.imul, 1) := by decide +kernel
theorem dX8_put_52 : decode cX8_put 52 = .ok (.aload_n 0, 1) := by decide +kernel
theorem dX8_put_53 : decode cX8_put 53 = .ok (.getfield 17, 3) := by decide +kernel
theorem dX8_put_56 : decode cX8_put 56 = .ok (.iload_n 1, 1) := by decide +kernel
theorem dX8_put_57 : decode cX8_put 57 = .ok (.iaload, 1) := by decide +kernel
theorem dX8_put_58 : decode cX8_put 58 = .ok (.iadd, 1) := by decide +kernel
theorem dX8_put_59 : decode cX8_put 59 = .ok (.iload_n 2, 1) := by decide +kernel
theorem dX8_put_60 : decode cX8_put 60 = .ok (.iastore, 1) := by decide +kernel
theorem dX8_put_61 : decode cX8_put 61 = .ok (.aload_n 0, 1) := by decide +kernel
theorem dX8_put_62 : decode cX8_put 62 = .ok (.getfield 17, 3) := by decide +kernel
theorem dX8_put_65 : decode cX8_put 65 = .ok (.iload_n 1, 1) := by decide +kernel
theorem dX8_put_66 : decode cX8_put 66 = .ok (.dup2, 1) := by decide +kernel
theorem dX8_put_67 : decode cX8_put 67 = .ok (.iaload, 1) := by decide +kernel
theorem dX8_put_68 : decode cX8_put 68 = .ok (.iconst 1, 1) := by decide +kernel
theorem dX8_put_69 : decode cX8_put 69 = .ok (.iadd, 1) := by decide +kernel
theorem dX8_put_70 : decode cX8_put 70 = .ok (.iastore, 1) := by decide +kernel
theorem dX8_put_71 : decode cX8_put 71 = .ok (.aload_n 0, 1) := by decide +kernel
theorem dX8_put_72 : decode cX8_put 72 = .ok (.getfield 17, 3) := by decide +kernel
theorem dX8_put_75 : decode cX8_put 75 = .ok (.iload_n 1, 1) := by decide +kernel
theorem dX8_put_76 : decode cX8_put 76 = .ok (.iaload, 1) := by decide +kernel
theorem dX8_put_77 : decode cX8_put 77 = .ok (.ireturn, 1) := by decide +kernel
theorem dX8_take_0 : decode cX8_take 0 = .ok (.aload_n 0, 1) := by decide +kernel
theorem dX8_take_1 : decode cX8_take 1 = .ok (.iload_n 1, 1) := by decide +kernel
theorem dX8_take_2 : decode cX8_take 2 = .ok (.iload_n 2, 1) := by decide +kernel
theorem dX8_take_3 : decode cX8_take 3 = .ok (.invokevirtual 159, 3) := by decide +kernel
theorem dX8_take_6 : decode cX8_take 6 = .ok (.ifCond .ne 6, 3) := by decide +kernel
theorem dX8_take_9 : decode cX8_take 9 = .ok (.bipush (-101), 2) := by decide +kernel
theorem dX8_take_11 : decode cX8_take 11 = .ok (.ireturn, 1) := by decide +kernel
theorem dX8_take_12 : decode cX8_take 12 = .ok (.aload_n 0, 1) := by decide +kernel
theorem dX8_take_13 : decode cX8_take 13 = .ok (.iload_n 1, 1) := by decide +kernel
theorem dX8_take_14 : decode cX8_take 14 = .ok (.iload_n 2, 1) := by decide +kernel
theorem dX8_take_15 : decode cX8_take 15 = .ok (.invokevirtual 152, 3) := by decide +kernel
theorem dX8_take_18 : decode cX8_take 18 = .ok (.istore_n 3, 1) := by decide +kernel
theorem dX8_take_19 : decode cX8_take 19 = .ok (.iload_n 2, 1) := by decide +kernel
theorem dX8_take_20 : decode cX8_take 20 = .ok (.iconst 1, 1) := by decide +kernel
theorem dX8_take_21 : decode cX8_take 21 = .ok (.iadd, 1) := by decide +kernel
theorem dX8_take_22 : decode cX8_take 22 = .ok (.istore 4, 2) := by decide +kernel
theorem dX8_take_24 : decode cX8_take 24 = .ok (.iload 4, 2) := by decide +kernel
theorem dX8_take_26 : decode cX8_take 26 = .ok (.aload_n 0, 1) := by decide +kernel
theorem dX8_take_27 : decode cX8_take 27 = .ok (.getfield 17, 3) := by decide +kernel
theorem dX8_take_30 : decode cX8_take 30 = .ok (.iload_n 1, 1) := by decide +kernel
theorem dX8_take_31 : decode cX8_take 31 = .ok (.iaload, 1) := by decide +kernel
theorem dX8_take_32 : decode cX8_take 32 = .ok (.if_icmp .ge 30, 3) := by decide +kernel
theorem dX8_take_35 : decode cX8_take 35 = .ok (.aload_n 0, 1) := by decide +kernel
theorem dX8_take_36 : decode cX8_take 36 = .ok (.getfield 13, 3) := by decide +kernel
theorem dX8_take_39 : decode cX8_take 39 = .ok (.bipush 14, 2) := by decide +kernel
theorem dX8_take_41 : decode cX8_take 41 = .ok (.iload_n 1, 1) := by decide +kernel
theorem dX8_take_42 : decode cX8_take 42 = .ok (.imul, 1) := by decide +kernel
theorem dX8_take_43 : decode cX8_take 43 = .ok (.iload 4, 2) := by decide +kernel
theorem dX8_take_45 : decode cX8_take 45 = .ok (.iadd, 1) := by decide +kernel
theorem dX8_take_46 : decode cX8_take 46 = .ok (.iconst 1, 1) := by decide +kernel
theorem dX8_take_47 : decode cX8_take 47 = .ok (.isub, 1) := by decide +kernel
theorem dX8_take_48 : decode cX8_take 48 = .ok (.aload_n 0, 1) := by decide +kernel
theorem dX8_take_49 : decode cX8_take 49 = .ok (.iload_n 1, 1) := by decide +kernel
theorem dX8_take_50 : decode cX8_take 50 = .ok (.iload 4, 2) := by decide +kernel
theorem dX8_take_52 : decode cX8_take 52 = .ok (.invokevirtual 152, 3) := by decide +kernel
theorem dX8_take_55 : decode cX8_take 55 = .ok (.iastore, 1) := by decide +kernel
theorem dX8_take_56 : decode cX8_take 56 = .ok (.iinc 4 1, 3) := by decide +kernel
theorem dX8_take_59 : decode cX8_take 59 = .ok (.goto (-35), 3) := by decide +kernel
theorem dX8_take_62 : decode cX8_take 62 = .ok (.aload_n 0, 1) := by decide +kernel
theorem dX8_take_63 : decode cX8_take 63 = .ok (.getfield 17, 3) := by decide +kernel
theorem dX8_take_66 : decode cX8_take 66 = .ok (.iload_n 1, 1) := by decide +kernel
theorem dX8_take_67 : decode cX8_take 67 = .ok (.dup2, 1) := by decide +kernel
theorem dX8_take_68 : decode cX8_take 68 = .ok (.iaload, 1) := by decide +kernel
theorem dX8_take_69 : decode cX8_take 69 = .ok (.iconst 1, 1) := by decide +kernel
theorem dX8_take_70 : decode cX8_take 70 = .ok (.isub, 1) := by decide +kernel
theorem dX8_take_71 : decode cX8_take 71 = .ok (.iastore, 1) := by decide +kernel
theorem dX8_take_72 : decode cX8_take 72 = .ok (.iload_n 3, 1) := by decide +kernel
theorem dX8_take_73 : decode cX8_take 73 = .ok (.ireturn, 1) := by decide +kernel
theorem dX8_key_0 : decode cX8_key 0 = .ok (.aload_n 0, 1) := by decide +kernel
theorem dX8_key_1 : decode cX8_key 1 = .ok (.iload_n 1, 1) := by decide +kernel
theorem dX8_key_2 : decode cX8_key 2 = .ok (.iload_n 2, 1) := by decide +kernel
theorem dX8_key_3 : decode cX8_key 3 = .ok (.invokevirtual 159, 3) := by decide +kernel
theorem dX8_key_6 : decode cX8_key 6 = .ok (.ifCond .ne 6, 3) := by decide +kernel
theorem dX8_key_9 : decode cX8_key 9 = .ok (.bipush (-101), 2) := by decide +kernel
theorem dX8_key_11 : decode cX8_key 11 = .ok (.ireturn, 1) := by decide +kernel
theorem dX8_key_12 : decode cX8_key 12 = .ok (.iload_n 3, 1) := by decide +kernel
theorem dX8_key_13 : decode cX8_key 13 = .ok (.invokestatic 167, 3) := by decide +kernel
theorem dX8_key_16 : decode cX8_key 16 = .ok (.ifCond .ne 6, 3) := by decide +kernel
theorem dX8_key_19 : decode cX8_key 19 = .ok (.bipush (-102), 2) := by decide +kernel
theorem dX8_key_21 : decode cX8_key 21 = .ok (.ireturn, 1) := by decide +kernel
theorem dX8_key_22 : decode cX8_key 22 = .ok (.aload_n 0, 1) := by decide +kernel
theorem dX8_key_23 : decode cX8_key 23 = .ok (.iload_n 1, 1) := by decide +kernel
theorem dX8_key_24 : decode cX8_key 24 = .ok (.iload_n 2, 1) := by decide +kernel
theorem dX8_key_25 : decode cX8_key 25 = .ok (.invokevirtual 152, 3) := by decide +kernel
theorem dX8_key_28 : decode cX8_key 28 = .ok (.istore 4, 2) := by decide +kernel
theorem dX8_key_30 : decode cX8_key 30 = .ok (.aload_n 0, 1) := by decide +kernel
theorem dX8_key_31 : decode cX8_key 31 = .ok (.getfield 13, 3) := by decide +kernel
theorem dX8_key_34 : decode cX8_key 34 = .ok (.bipush 14, 2) := by decide +kernel
theorem dX8_key_36 : decode cX8_key 36 = .ok (.iload_n 1, 1) := by decide +kernel
theorem dX8_key_37 : decode cX8_key 37 = .ok (.imul, 1) := by decide +kernel
theorem dX8_key_38 : decode cX8_key 38 = .ok (.iload_n 2, 1) := by decide +kernel
theorem dX8_key_39 : decode cX8_key 39 = .ok (.iadd, 1) := by decide +kernel
theorem dX8_key_40 : decode cX8_key 40 = .ok (.iload_n 3, 1) := by decide +kernel
theorem dX8_key_41 : decode cX8_key 41 = .ok (.iastore, 1) := by decide +kernel
theorem dX8_key_42 : decode cX8_key 42 = .ok (.iload 4, 2) := by decide +kernel
theorem dX8_key_44 : decode cX8_key 44 = .ok (.ireturn, 1) := by decide +kernel
theorem dX8_memory_0 : decode cX8_memory 0 = .ok (.iload_n 1, 1) := by decide +kernel
theorem dX8_memory_1 : decode cX8_memory 1 = .ok (.iconst 1, 1) := by decide +kernel
theorem dX8_memory_2 : decode cX8_memory 2 = .ok (.bipush 9, 2) := by decide +kernel
theorem dX8_memory_4 : decode cX8_memory 4 = .ok (.invokestatic 99, 3) := by decide +kernel
theorem dX8_memory_7 : decode cX8_memory 7 = .ok (.ifCond .ne 6, 3) := by decide +kernel
theorem dX8_memory_10 : decode cX8_memory 10 = .ok (.bipush (-102), 2) := by decide +kernel
theorem dX8_memory_12 : decode cX8_memory 12 = .ok (.ireturn, 1) := by decide +kernel
theorem dX8_memory_13 : decode cX8_memory 13 = .ok (.aload_n 0, 1) := by decide +kernel
theorem dX8_memory_14 : decode cX8_memory 14 = .ok (.getfield 143, 3) := by decide +kernel
theorem dX8_memory_17 : decode cX8_memory 17 = .ok (.ifCond .ne 6, 3) := by decide +kernel
theorem dX8_memory_20 : decode cX8_memory 20 = .ok (.bipush (-103), 2) := by decide +kernel
theorem dX8_memory_22 : decode cX8_memory 22 = .ok (.ireturn, 1) := by decide +kernel
theorem dX8_memory_23 : decode cX8_memory 23 = .ok (.aload_n 0, 1) := by decide +kernel
theorem dX8_memory_24 : decode cX8_memory 24 = .ok (.getfield 134, 3) := by decide +kernel
theorem dX8_memory_27 : decode cX8_memory 27 = .ok (.istore_n 2, 1) := by decide +kernel
theorem dX8_memory_28 : decode cX8_memory 28 = .ok (.aload_n 0, 1) := by decide +kernel
theorem dX8_memory_29 : decode cX8_memory 29 = .ok (.iload_n 1, 1) := by decide +kernel
theorem dX8_memory_30 : decode cX8_memory 30 = .ok (.putfield 134, 3) := by decide +kernel
theorem dX8_memory_33 : decode cX8_memory 33 = .ok (.iload_n 2, 1) := by decide +kernel
theorem dX8_memory_34 : decode cX8_memory 34 = .ok (.ireturn, 1) := by decide +kernel
theorem dX8_be_0 : decode cX8_be 0 = .ok (.iload_n 1, 1) := by decide +kernel
theorem dX8_be_1 : decode cX8_be 1 = .ok (.iconst 0, 1) := by decide +kernel
theorem dX8_be_2 : decode cX8_be 2 = .ok (.iconst 4, 1) := by decide +kernel
theorem dX8_be_3 : decode cX8_be 3 = .ok (.invokestatic 99, 3) := by decide +kernel
theorem dX8_be_6 : decode cX8_be 6 = .ok (.ifCond .ne 6, 3) := by decide +kernel
theorem dX8_be_9 : decode cX8_be 9 = .ok (.bipush (-102), 2) := by decide +kernel
theorem dX8_be_11 : decode cX8_be 11 = .ok (.ireturn, 1) := by decide +kernel
theorem dX8_be_12 : decode cX8_be 12 = .ok (.aload_n 0, 1) := by decide +kernel
theorem dX8_be_13 : decode cX8_be 13 = .ok (.getfield 143, 3) := by decide +kernel
theorem dX8_be_16 : decode cX8_be 16 = .ok (.ifCond .ne 6, 3) := by decide +kernel
theorem dX8_be_19 : decode cX8_be 19 = .ok (.bipush (-103), 2) := by decide +kernel
theorem dX8_be_21 : decode cX8_be 21 = .ok (.ireturn, 1) := by decide +kernel
theorem dX8_be_22 : decode cX8_be 22 = .ok (.aload_n 0, 1) := by decide +kernel
theorem dX8_be_23 : decode cX8_be 23 = .ok (.getfield 9, 3) := by decide +kernel
theorem dX8_be_26 : decode cX8_be 26 = .ok (.istore_n 2, 1) := by decide +kernel
theorem dX8_be_27 : decode cX8_be 27 = .ok (.aload_n 0, 1) := by decide +kernel
theorem dX8_be_28 : decode cX8_be 28 = .ok (.iload_n 1, 1) := by decide +kernel
theorem dX8_be_29 : decode cX8_be 29 = .ok (.putfield 9, 3) := by decide +kernel
theorem dX8_be_32 : decode cX8_be 32 = .ok (.iload_n 2, 1) := by decide +kernel
theorem dX8_be_33 : decode cX8_be 33 = .ok (.ireturn, 1) := by decide +kernel
theorem dX8_noteLog_0 : decode cX8_noteLog 0 = .ok (.aload_n 0, 1) := by decide +kernel
theorem dX8_noteLog_1 : decode cX8_noteLog 1 = .ok (.getfield 42, 3) := by decide +kernel
theorem dX8_noteLog_4 : decode cX8_noteLog 4 = .ok (.aload_n 0, 1) := by decide +kernel
theorem dX8_noteLog_5 : decode cX8_noteLog 5 = .ok (.getfield 170, 3) := by decide +kernel
theorem dX8_noteLog_8 : decode cX8_noteLog 8 = .ok (.iload_n 1, 1) := by decide +kernel
theorem dX8_noteLog_9 : decode cX8_noteLog 9 = .ok (.iastore, 1) := by decide +kernel
theorem dX8_noteLog_10 : decode cX8_noteLog 10 = .ok (.aload_n 0, 1) := by decide +kernel
theorem dX8_noteLog_11 : decode cX8_noteLog 11 = .ok (.getfield 45, 3) := by decide +kernel
theorem dX8_noteLog_14 : decode cX8_noteLog 14 = .ok (.aload_n 0, 1) := by decide +kernel
theorem dX8_noteLog_15 : decode cX8_noteLog 15 = .ok (.getfield 170, 3) := by decide +kernel
theorem dX8_noteLog_18 : decode cX8_noteLog 18 = .ok (.iload_n 2, 1) := by decide +kernel
theorem dX8_noteLog_19 : decode cX8_noteLog 19 = .ok (.iastore, 1) := by decide +kernel
theorem dX8_noteLog_20 : decode cX8_noteLog 20 = .ok (.aload_n 0, 1) := by decide +kernel
theorem dX8_noteLog_21 : decode cX8_noteLog 21 = .ok (.getfield 48, 3) := by decide +kernel
theorem dX8_noteLog_24 : decode cX8_noteLog 24 = .ok (.aload_n 0, 1) := by decide +kernel
theorem dX8_noteLog_25 : decode cX8_noteLog 25 = .ok (.getfield 170, 3) := by decide +kernel
theorem dX8_noteLog_28 : decode cX8_noteLog 28 = .ok (.iload_n 3, 1) := by decide +kernel
theorem dX8_noteLog_29 : decode cX8_noteLog 29 = .ok (.iastore, 1) := by decide +kernel
theorem dX8_noteLog_30 : decode cX8_noteLog 30 = .ok (.aload_n 0, 1) := by decide +kernel
theorem dX8_noteLog_31 : decode cX8_noteLog 31 = .ok (.dup, 1) := by decide +kernel
theorem dX8_noteLog_32 : decode cX8_noteLog 32 = .ok (.getfield 170, 3) := by decide +kernel
theorem dX8_noteLog_35 : decode cX8_noteLog 35 = .ok (.iconst 1, 1) := by decide +kernel
theorem dX8_noteLog_36 : decode cX8_noteLog 36 = .ok (.iadd, 1) := by decide +kernel
theorem dX8_noteLog_37 : decode cX8_noteLog 37 = .ok (.putfield 170, 3) := by decide +kernel
theorem dX8_noteLog_40 : decode cX8_noteLog 40 = .ok (.return_, 1) := by decide +kernel
theorem dX8_openOne_0 : decode cX8_openOne 0 = .ok (.aload_n 0, 1) := by decide +kernel
theorem dX8_openOne_1 : decode cX8_openOne 1 = .ok (.getfield 30, 3) := by decide +kernel
theorem dX8_openOne_4 : decode cX8_openOne 4 = .ok (.aload_n 0, 1) := by decide +kernel
theorem dX8_openOne_5 : decode cX8_openOne 5 = .ok (.getfield 173, 3) := by decide +kernel
theorem dX8_openOne_8 : decode cX8_openOne 8 = .ok (.aload_n 0, 1) := by decide +kernel
theorem dX8_openOne_9 : decode cX8_openOne 9 = .ok (.getfield 176, 3) := by decide +kernel
theorem dX8_openOne_12 : decode cX8_openOne 12 = .ok (.iastore, 1) := by decide +kernel
theorem dX8_openOne_13 : decode cX8_openOne 13 = .ok (.aload_n 0, 1) := by decide +kernel
theorem dX8_openOne_14 : decode cX8_openOne 14 = .ok (.getfield 33, 3) := by decide +kernel
theorem dX8_openOne_17 : decode cX8_openOne 17 = .ok (.aload_n 0, 1) := by decide +kernel
theorem dX8_openOne_18 : decode cX8_openOne 18 = .ok (.getfield 173, 3) := by decide +kernel
theorem dX8_openOne_21 : decode cX8_openOne 21 = .ok (.iload_n 1, 1) := by decide +kernel
theorem dX8_openOne_22 : decode cX8_openOne 22 = .ok (.iastore, 1) := by decide +kernel
theorem dX8_openOne_23 : decode cX8_openOne 23 = .ok (.aload_n 0, 1) := by decide +kernel
theorem dX8_openOne_24 : decode cX8_openOne 24 = .ok (.dup, 1) := by decide +kernel
theorem dX8_openOne_25 : decode cX8_openOne 25 = .ok (.getfield 173, 3) := by decide +kernel
theorem dX8_openOne_28 : decode cX8_openOne 28 = .ok (.iconst 1, 1) := by decide +kernel
theorem dX8_openOne_29 : decode cX8_openOne 29 = .ok (.iadd, 1) := by decide +kernel
theorem dX8_openOne_30 : decode cX8_openOne 30 = .ok (.putfield 173, 3) := by decide +kernel
theorem dX8_openOne_33 : decode cX8_openOne 33 = .ok (.aload_n 0, 1) := by decide +kernel
theorem dX8_openOne_34 : decode cX8_openOne 34 = .ok (.aload_n 0, 1) := by decide +kernel
theorem dX8_openOne_35 : decode cX8_openOne 35 = .ok (.getfield 176, 3) := by decide +kernel
theorem dX8_openOne_38 : decode cX8_openOne 38 = .ok (.iconst 1, 1) := by decide +kernel
theorem dX8_openOne_39 : decode cX8_openOne 39 = .ok (.iload_n 1, 1) := by decide +kernel
theorem dX8_openOne_40 : decode cX8_openOne 40 = .ok (.invokevirtual 179, 3) := by decide +kernel
theorem dX8_openOne_43 : decode cX8_openOne 43 = .ok (.aload_n 0, 1) := by decide +kernel
theorem dX8_openOne_44 : decode cX8_openOne 44 = .ok (.dup, 1) := by decide +kernel
theorem dX8_openOne_45 : decode cX8_openOne 45 = .ok (.getfield 176, 3) := by decide +kernel
theorem dX8_openOne_48 : decode cX8_openOne 48 = .ok (.iconst 1, 1) := by decide +kernel
theorem dX8_openOne_49 : decode cX8_openOne 49 = .ok (.iadd, 1) := by decide +kernel
theorem dX8_openOne_50 : decode cX8_openOne 50 = .ok (.putfield 176, 3) := by decide +kernel
theorem dX8_openOne_53 : decode cX8_openOne 53 = .ok (.return_, 1) := by decide +kernel
theorem dX8_shutOne_0 : decode cX8_shutOne 0 = .ok (.aload_n 0, 1) := by decide +kernel
theorem dX8_shutOne_1 : decode cX8_shutOne 1 = .ok (.dup, 1) := by decide +kernel
theorem dX8_shutOne_2 : decode cX8_shutOne 2 = .ok (.getfield 173, 3) := by decide +kernel
theorem dX8_shutOne_5 : decode cX8_shutOne 5 = .ok (.iconst 1, 1) := by decide +kernel
theorem dX8_shutOne_6 : decode cX8_shutOne 6 = .ok (.isub, 1) := by decide +kernel
theorem dX8_shutOne_7 : decode cX8_shutOne 7 = .ok (.putfield 173, 3) := by decide +kernel
theorem dX8_shutOne_10 : decode cX8_shutOne 10 = .ok (.aload_n 0, 1) := by decide +kernel
theorem dX8_shutOne_11 : decode cX8_shutOne 11 = .ok (.aload_n 0, 1) := by decide +kernel
theorem dX8_shutOne_12 : decode cX8_shutOne 12 = .ok (.getfield 30, 3) := by decide +kernel
theorem dX8_shutOne_15 : decode cX8_shutOne 15 = .ok (.aload_n 0, 1) := by decide +kernel
theorem dX8_shutOne_16 : decode cX8_shutOne 16 = .ok (.getfield 173, 3) := by decide +kernel
theorem dX8_shutOne_19 : decode cX8_shutOne 19 = .ok (.iaload, 1) := by decide +kernel
theorem dX8_shutOne_20 : decode cX8_shutOne 20 = .ok (.iconst 0, 1) := by decide +kernel
theorem dX8_shutOne_21 : decode cX8_shutOne 21 = .ok (.aload_n 0, 1) := by decide +kernel
theorem dX8_shutOne_22 : decode cX8_shutOne 22 = .ok (.getfield 33, 3) := by decide +kernel
theorem dX8_shutOne_25 : decode cX8_shutOne 25 = .ok (.aload_n 0, 1) := by decide +kernel
theorem dX8_shutOne_26 : decode cX8_shutOne 26 = .ok (.getfield 173, 3) := by decide +kernel
theorem dX8_shutOne_29 : decode cX8_shutOne 29 = .ok (.iaload, 1) := by decide +kernel
theorem dX8_shutOne_30 : decode cX8_shutOne 30 = .ok (.invokevirtual 179, 3) := by decide +kernel
theorem dX8_shutOne_33 : decode cX8_shutOne 33 = .ok (.return_, 1) := by decide +kernel
theorem dX8_come_0 : decode cX8_come 0 = .ok (.aload_n 0, 1) := by decide +kernel
theorem dX8_come_1 : decode cX8_come 1 = .ok (.getfield 183, 3) := by decide +kernel
theorem dX8_come_4 : decode cX8_come 4 = .ok (.ifCond .eq 4, 3) := by decide +kernel
theorem dX8_come_7 : decode cX8_come 7 = .ok (.return_, 1) := by decide +kernel
theorem dX8_come_8 : decode cX8_come 8 = .ok (.aload_n 0, 1) := by decide +kernel
theorem dX8_come_9 : decode cX8_come 9 = .ok (.getfield 186, 3) := by decide +kernel
theorem dX8_come_12 : decode cX8_come 12 = .ok (.aload_n 0, 1) := by decide +kernel
theorem dX8_come_13 : decode cX8_come 13 = .ok (.getfield 189, 3) := by decide +kernel
theorem dX8_come_16 : decode cX8_come 16 = .ok (.if_icmp .ne 9, 3) := by decide +kernel
theorem dX8_come_19 : decode cX8_come 19 = .ok (.aload_n 0, 1) := by decide +kernel
theorem dX8_come_20 : decode cX8_come 20 = .ok (.iconst 1, 1) := by decide +kernel
theorem dX8_come_21 : decode cX8_come 21 = .ok (.putfield 183, 3) := by decide +kernel
theorem dX8_come_24 : decode cX8_come 24 = .ok (.return_, 1) := by decide +kernel
theorem dX8_come_25 : decode cX8_come 25 = .ok (.aload_n 0, 1) := by decide +kernel
theorem dX8_come_26 : decode cX8_come 26 = .ok (.getfield 36, 3) := by decide +kernel
theorem dX8_come_29 : decode cX8_come 29 = .ok (.aload_n 0, 1) := by decide +kernel
theorem dX8_come_30 : decode cX8_come 30 = .ok (.getfield 186, 3) := by decide +kernel
theorem dX8_come_33 : decode cX8_come 33 = .ok (.iload_n 1, 1) := by decide +kernel
theorem dX8_come_34 : decode cX8_come 34 = .ok (.iastore, 1) := by decide +kernel
theorem dX8_come_35 : decode cX8_come 35 = .ok (.aload_n 0, 1) := by decide +kernel
theorem dX8_come_36 : decode cX8_come 36 = .ok (.getfield 39, 3) := by decide +kernel
theorem dX8_come_39 : decode cX8_come 39 = .ok (.aload_n 0, 1) := by decide +kernel
theorem dX8_come_40 : decode cX8_come 40 = .ok (.getfield 186, 3) := by decide +kernel
theorem dX8_come_43 : decode cX8_come 43 = .ok (.iload_n 2, 1) := by decide +kernel
theorem dX8_come_44 : decode cX8_come 44 = .ok (.iastore, 1) := by decide +kernel
theorem dX8_come_45 : decode cX8_come 45 = .ok (.aload_n 0, 1) := by decide +kernel
theorem dX8_come_46 : decode cX8_come 46 = .ok (.dup, 1) := by decide +kernel
theorem dX8_come_47 : decode cX8_come 47 = .ok (.getfield 186, 3) := by decide +kernel
theorem dX8_come_50 : decode cX8_come 50 = .ok (.iconst 1, 1) := by decide +kernel
theorem dX8_come_51 : decode cX8_come 51 = .ok (.iadd, 1) := by decide +kernel
theorem dX8_come_52 : decode cX8_come 52 = .ok (.putfield 186, 3) := by decide +kernel
theorem dX8_come_55 : decode cX8_come 55 = .ok (.return_, 1) := by decide +kernel
theorem dX8_comesAlone_0 : decode cX8_comesAlone 0 = .ok (.aload_n 0, 1) := by decide +kernel
theorem dX8_comesAlone_1 : decode cX8_comesAlone 1 = .ok (.getfield 9, 3) := by decide +kernel
theorem dX8_comesAlone_4 : decode cX8_comesAlone 4 = .ok (.iconst 4, 1) := by decide +kernel
theorem dX8_comesAlone_5 : decode cX8_comesAlone 5 = .ok (.if_icmp .eq 23, 3) := by decide +kernel
theorem dX8_comesAlone_8 : decode cX8_comesAlone 8 = .ok (.iload_n 1, 1) := by decide +kernel
theorem dX8_comesAlone_9 : decode cX8_comesAlone 9 = .ok (.ifCond .ne 23, 3) := by decide +kernel
theorem dX8_comesAlone_12 : decode cX8_comesAlone 12 = .ok (.aload_n 0, 1) := by decide +kernel
theorem dX8_comesAlone_13 : decode cX8_comesAlone 13 = .ok (.getfield 9, 3) := by decide +kernel
theorem dX8_comesAlone_16 : decode cX8_comesAlone 16 = .ok (.iconst 1, 1) := by decide +kernel
theorem dX8_comesAlone_17 : decode cX8_comesAlone 17 = .ok (.if_icmp .eq 11, 3) := by decide +kernel
theorem dX8_comesAlone_20 : decode cX8_comesAlone 20 = .ok (.aload_n 0, 1) := by decide +kernel
theorem dX8_comesAlone_21 : decode cX8_comesAlone 21 = .ok (.getfield 9, 3) := by decide +kernel
theorem dX8_comesAlone_24 : decode cX8_comesAlone 24 = .ok (.iconst 2, 1) := by decide +kernel
theorem dX8_comesAlone_25 : decode cX8_comesAlone 25 = .ok (.if_icmp .ne 7, 3) := by decide +kernel
theorem dX8_comesAlone_28 : decode cX8_comesAlone 28 = .ok (.iconst 1, 1) := by decide +kernel
theorem dX8_comesAlone_29 : decode cX8_comesAlone 29 = .ok (.goto 4, 3) := by decide +kernel
theorem dX8_comesAlone_32 : decode cX8_comesAlone 32 = .ok (.iconst 0, 1) := by decide +kernel
theorem dX8_comesAlone_33 : decode cX8_comesAlone 33 = .ok (.ireturn, 1) := by decide +kernel
theorem dX8_alone_0 : decode cX8_alone 0 = .ok (.aload_n 0, 1) := by decide +kernel
theorem dX8_alone_1 : decode cX8_alone 1 = .ok (.iload_n 1, 1) := by decide +kernel
theorem dX8_alone_2 : decode cX8_alone 2 = .ok (.invokevirtual 192, 3) := by decide +kernel
theorem dX8_alone_5 : decode cX8_alone 5 = .ok (.ifCond .eq 25, 3) := by decide +kernel
theorem dX8_alone_8 : decode cX8_alone 8 = .ok (.aload_n 0, 1) := by decide +kernel
theorem dX8_alone_9 : decode cX8_alone 9 = .ok (.iload_n 1, 1) := by decide +kernel
theorem dX8_alone_10 : decode cX8_alone 10 = .ok (.ifCond .ne 7, 3) := by decide +kernel
theorem dX8_alone_13 : decode cX8_alone 13 = .ok (.iload_n 2, 1) := by decide +kernel
theorem dX8_alone_14 : decode cX8_alone 14 = .ok (.goto 4, 3) := by decide +kernel
theorem dX8_alone_17 : decode cX8_alone 17 = .ok (.iconst (-1), 1) := by decide +kernel
theorem dX8_alone_18 : decode cX8_alone 18 = .ok (.iload_n 1, 1) := by decide +kernel
theorem dX8_alone_19 : decode cX8_alone 19 = .ok (.ifCond .ne 7, 3) := by decide +kernel
theorem dX8_alone_22 : decode cX8_alone 22 = .ok (.iconst (-1), 1) := by decide +kernel
theorem dX8_alone_23 : decode cX8_alone 23 = .ok (.goto 4, 3) := by decide +kernel
theorem dX8_alone_26 : decode cX8_alone 26 = .ok (.iload_n 2, 1) := by decide +kernel
theorem dX8_alone_27 : decode cX8_alone 27 = .ok (.invokevirtual 195, 3) := by decide +kernel
theorem dX8_alone_30 : decode cX8_alone 30 = .ok (.return_, 1) := by decide +kernel
theorem dX8_meet_0 : decode cX8_meet 0 = .ok (.aload_n 0, 1) := by decide +kernel
theorem dX8_meet_1 : decode cX8_meet 1 = .ok (.getfield 9, 3) := by decide +kernel
theorem dX8_meet_4 : decode cX8_meet 4 = .ok (.iconst 3, 1) := by decide +kernel
theorem dX8_meet_5 : decode cX8_meet 5 = .ok (.if_icmp .ne 35, 3) := by decide +kernel
theorem dX8_meet_8 : decode cX8_meet 8 = .ok (.aload_n 0, 1) := by decide +kernel
theorem dX8_meet_9 : decode cX8_meet 9 = .ok (.getfield 199, 3) := by decide +kernel
theorem dX8_meet_12 : decode cX8_meet 12 = .ok (.iload_n 1, 1) := by decide +kernel
theorem dX8_meet_13 : decode cX8_meet 13 = .ok (.invokestatic 202, 3) := by decide +kernel
theorem dX8_meet_16 : decode cX8_meet 16 = .ok (.ifCond .ne 38, 3) := by decide +kernel
theorem dX8_meet_19 : decode cX8_meet 19 = .ok (.aload_n 0, 1) := by decide +kernel
theorem dX8_meet_20 : decode cX8_meet 20 = .ok (.dup, 1) := by decide +kernel
theorem dX8_meet_21 : decode cX8_meet 21 = .ok (.getfield 199, 3) := by decide +kernel
theorem dX8_meet_24 : decode cX8_meet 24 = .ok (.iconst 1, 1) := by decide +kernel
theorem dX8_meet_25 : decode cX8_meet 25 = .ok (.iload_n 1, 1) := by decide +kernel
theorem dX8_meet_26 : decode cX8_meet 26 = .ok (.ishl, 1) := by decide +kernel
theorem dX8_meet_27 : decode cX8_meet 27 = .ok (.ior, 1) := by decide +kernel
theorem dX8_meet_28 : decode cX8_meet 28 = .ok (.putfield 199, 3) := by decide +kernel
theorem dX8_meet_31 : decode cX8_meet 31 = .ok (.aload_n 0, 1) := by decide +kernel
theorem dX8_meet_32 : decode cX8_meet 32 = .ok (.iload_n 1, 1) := by decide +kernel
theorem dX8_meet_33 : decode cX8_meet 33 = .ok (.iconst (-1), 1) := by decide +kernel
theorem dX8_meet_34 : decode cX8_meet 34 = .ok (.invokevirtual 195, 3) := by decide +kernel
theorem dX8_meet_37 : decode cX8_meet 37 = .ok (.goto 17, 3) := by decide +kernel
theorem dX8_meet_40 : decode cX8_meet 40 = .ok (.aload_n 0, 1) := by decide +kernel
theorem dX8_meet_41 : decode cX8_meet 41 = .ok (.getfield 9, 3) := by decide +kernel
theorem dX8_meet_44 : decode cX8_meet 44 = .ok (.iconst 2, 1) := by decide +kernel
theorem dX8_meet_45 : decode cX8_meet 45 = .ok (.if_icmp .eq 9, 3) := by decide +kernel
theorem dX8_meet_48 : decode cX8_meet 48 = .ok (.aload_n 0, 1) := by decide +kernel
theorem dX8_meet_49 : decode cX8_meet 49 = .ok (.iload_n 1, 1) := by decide +kernel
theorem dX8_meet_50 : decode cX8_meet 50 = .ok (.iload_n 2, 1) := by decide +kernel
theorem dX8_meet_51 : decode cX8_meet 51 = .ok (.invokevirtual 195, 3) := by decide +kernel
theorem dX8_meet_54 : decode cX8_meet 54 = .ok (.return_, 1) := by decide +kernel
theorem dX8_inMemory_0 : decode cX8_inMemory 0 = .ok (.aload_n 0, 1) := by decide +kernel
theorem dX8_inMemory_1 : decode cX8_inMemory 1 = .ok (.iload_n 1, 1) := by decide +kernel
theorem dX8_inMemory_2 : decode cX8_inMemory 2 = .ok (.aload_n 0, 1) := by decide +kernel
theorem dX8_inMemory_3 : decode cX8_inMemory 3 = .ok (.getfield 205, 3) := by decide +kernel
theorem dX8_inMemory_6 : decode cX8_inMemory 6 = .ok (.if_icmp .le 7, 3) := by decide +kernel
theorem dX8_inMemory_9 : decode cX8_inMemory 9 = .ok (.iload_n 1, 1) := by decide +kernel
theorem dX8_inMemory_10 : decode cX8_inMemory 10 = .ok (.goto 7, 3) := by decide +kernel
theorem dX8_inMemory_13 : decode cX8_inMemory 13 = .ok (.aload_n 0, 1) := by decide +kernel
theorem dX8_inMemory_14 : decode cX8_inMemory 14 = .ok (.getfield 205, 3) := by decide +kernel
theorem dX8_inMemory_17 : decode cX8_inMemory 17 = .ok (.putfield 205, 3) := by decide +kernel
theorem dX8_inMemory_20 : decode cX8_inMemory 20 = .ok (.return_, 1) := by decide +kernel
theorem dX8_meetAll_0 : decode cX8_meetAll 0 = .ok (.iconst 0, 1) := by decide +kernel
theorem dX8_meetAll_1 : decode cX8_meetAll 1 = .ok (.istore 4, 2) := by decide +kernel
theorem dX8_meetAll_3 : decode cX8_meetAll 3 = .ok (.iload 4, 2) := by decide +kernel
theorem dX8_meetAll_5 : decode cX8_meetAll 5 = .ok (.aload_n 0, 1) := by decide +kernel
theorem dX8_meetAll_6 : decode cX8_meetAll 6 = .ok (.getfield 17, 3) := by decide +kernel
theorem dX8_meetAll_9 : decode cX8_meetAll 9 = .ok (.iload_n 1, 1) := by decide +kernel
theorem dX8_meetAll_10 : decode cX8_meetAll 10 = .ok (.iaload, 1) := by decide +kernel
theorem dX8_meetAll_11 : decode cX8_meetAll 11 = .ok (.if_icmp .ge 74, 3) := by decide +kernel
theorem dX8_meetAll_14 : decode cX8_meetAll 14 = .ok (.iload_n 3, 1) := by decide +kernel
theorem dX8_meetAll_15 : decode cX8_meetAll 15 = .ok (.iload 4, 2) := by decide +kernel
theorem dX8_meetAll_17 : decode cX8_meetAll 17 = .ok (.invokestatic 202, 3) := by decide +kernel
theorem dX8_meetAll_20 : decode cX8_meetAll 20 = .ok (.ifCond .eq 25, 3) := by decide +kernel
theorem dX8_meetAll_23 : decode cX8_meetAll 23 = .ok (.aload_n 0, 1) := by decide +kernel
theorem dX8_meetAll_24 : decode cX8_meetAll 24 = .ok (.iload_n 1, 1) := by decide +kernel
theorem dX8_meetAll_25 : decode cX8_meetAll 25 = .ok (.iload 4, 2) := by decide +kernel
theorem dX8_meetAll_27 : decode cX8_meetAll 27 = .ok (.invokevirtual 152, 3) := by decide +kernel
theorem dX8_meetAll_30 : decode cX8_meetAll 30 = .ok (.aload_n 0, 1) := by decide +kernel
theorem dX8_meetAll_31 : decode cX8_meetAll 31 = .ok (.iconst 1, 1) := by decide +kernel
theorem dX8_meetAll_32 : decode cX8_meetAll 32 = .ok (.iload_n 1, 1) := by decide +kernel
theorem dX8_meetAll_33 : decode cX8_meetAll 33 = .ok (.isub, 1) := by decide +kernel
theorem dX8_meetAll_34 : decode cX8_meetAll 34 = .ok (.iload_n 2, 1) := by decide +kernel
theorem dX8_meetAll_35 : decode cX8_meetAll 35 = .ok (.invokevirtual 152, 3) := by decide +kernel
theorem dX8_meetAll_38 : decode cX8_meetAll 38 = .ok (.if_icmp .ne 7, 3) := by decide +kernel
theorem dX8_meetAll_41 : decode cX8_meetAll 41 = .ok (.iconst 1, 1) := by decide +kernel
theorem dX8_meetAll_42 : decode cX8_meetAll 42 = .ok (.goto 4, 3) := by decide +kernel
theorem dX8_meetAll_45 : decode cX8_meetAll 45 = .ok (.iconst 0, 1) := by decide +kernel
theorem dX8_meetAll_46 : decode cX8_meetAll 46 = .ok (.istore 5, 2) := by decide +kernel
theorem dX8_meetAll_48 : decode cX8_meetAll 48 = .ok (.iload 5, 2) := by decide +kernel
theorem dX8_meetAll_50 : decode cX8_meetAll 50 = .ok (.ifCond .eq 17, 3) := by decide +kernel
theorem dX8_meetAll_53 : decode cX8_meetAll 53 = .ok (.iload_n 1, 1) := by decide +kernel
theorem dX8_meetAll_54 : decode cX8_meetAll 54 = .ok (.ifCond .ne 13, 3) := by decide +kernel
theorem dX8_meetAll_57 : decode cX8_meetAll 57 = .ok (.aload_n 0, 1) := by decide +kernel
theorem dX8_meetAll_58 : decode cX8_meetAll 58 = .ok (.iload 4, 2) := by decide +kernel
theorem dX8_meetAll_60 : decode cX8_meetAll 60 = .ok (.iload_n 2, 1) := by decide +kernel
theorem dX8_meetAll_61 : decode cX8_meetAll 61 = .ok (.invokevirtual 208, 3) := by decide +kernel
theorem dX8_meetAll_64 : decode cX8_meetAll 64 = .ok (.goto 15, 3) := by decide +kernel
theorem dX8_meetAll_67 : decode cX8_meetAll 67 = .ok (.iload 5, 2) := by decide +kernel
theorem dX8_meetAll_69 : decode cX8_meetAll 69 = .ok (.ifCond .eq 10, 3) := by decide +kernel
theorem dX8_meetAll_72 : decode cX8_meetAll 72 = .ok (.aload_n 0, 1) := by decide +kernel
theorem dX8_meetAll_73 : decode cX8_meetAll 73 = .ok (.iload_n 2, 1) := by decide +kernel
theorem dX8_meetAll_74 : decode cX8_meetAll 74 = .ok (.iload 4, 2) := by decide +kernel
theorem dX8_meetAll_76 : decode cX8_meetAll 76 = .ok (.invokevirtual 208, 3) := by decide +kernel
theorem dX8_meetAll_79 : decode cX8_meetAll 79 = .ok (.iinc 4 1, 3) := by decide +kernel
theorem dX8_meetAll_82 : decode cX8_meetAll 82 = .ok (.goto (-79), 3) := by decide +kernel
theorem dX8_meetAll_85 : decode cX8_meetAll 85 = .ok (.return_, 1) := by decide +kernel
theorem dX8_aloneOnes_0 : decode cX8_aloneOnes 0 = .ok (.iconst 0, 1) := by decide +kernel
theorem dX8_aloneOnes_1 : decode cX8_aloneOnes 1 = .ok (.istore_n 3, 1) := by decide +kernel
theorem dX8_aloneOnes_2 : decode cX8_aloneOnes 2 = .ok (.iload_n 3, 1) := by decide +kernel
theorem dX8_aloneOnes_3 : decode cX8_aloneOnes 3 = .ok (.aload_n 0, 1) := by decide +kernel
theorem dX8_aloneOnes_4 : decode cX8_aloneOnes 4 = .ok (.getfield 17, 3) := by decide +kernel
theorem dX8_aloneOnes_7 : decode cX8_aloneOnes 7 = .ok (.iload_n 1, 1) := by decide +kernel
theorem dX8_aloneOnes_8 : decode cX8_aloneOnes 8 = .ok (.iaload, 1) := by decide +kernel
theorem dX8_aloneOnes_9 : decode cX8_aloneOnes 9 = .ok (.if_icmp .ge 39, 3) := by decide +kernel
theorem dX8_aloneOnes_12 : decode cX8_aloneOnes 12 = .ok (.aload_n 0, 1) := by decide +kernel
theorem dX8_aloneOnes_13 : decode cX8_aloneOnes 13 = .ok (.getfield 183, 3) := by decide +kernel
theorem dX8_aloneOnes_16 : decode cX8_aloneOnes 16 = .ok (.ifCond .ne 32, 3) := by decide +kernel
theorem dX8_aloneOnes_19 : decode cX8_aloneOnes 19 = .ok (.iload_n 2, 1) := by decide +kernel
theorem dX8_aloneOnes_20 : decode cX8_aloneOnes 20 = .ok (.iload_n 3, 1) := by decide +kernel
theorem dX8_aloneOnes_21 : decode cX8_aloneOnes 21 = .ok (.invokestatic 202, 3) := by decide +kernel
theorem dX8_aloneOnes_24 : decode cX8_aloneOnes 24 = .ok (.ifCond .eq 18, 3) := by decide +kernel
theorem dX8_aloneOnes_27 : decode cX8_aloneOnes 27 = .ok (.aload_n 0, 1) := by decide +kernel
theorem dX8_aloneOnes_28 : decode cX8_aloneOnes 28 = .ok (.iload_n 1, 1) := by decide +kernel
theorem dX8_aloneOnes_29 : decode cX8_aloneOnes 29 = .ok (.iload_n 3, 1) := by decide +kernel
theorem dX8_aloneOnes_30 : decode cX8_aloneOnes 30 = .ok (.invokevirtual 156, 3) := by decide +kernel
theorem dX8_aloneOnes_33 : decode cX8_aloneOnes 33 = .ok (.ifCond .ne 9, 3) := by decide +kernel
theorem dX8_aloneOnes_36 : decode cX8_aloneOnes 36 = .ok (.aload_n 0, 1) := by decide +kernel
theorem dX8_aloneOnes_37 : decode cX8_aloneOnes 37 = .ok (.iload_n 1, 1) := by decide +kernel
theorem dX8_aloneOnes_38 : decode cX8_aloneOnes 38 = .ok (.iload_n 3, 1) := by decide +kernel
theorem dX8_aloneOnes_39 : decode cX8_aloneOnes 39 = .ok (.invokevirtual 211, 3) := by decide +kernel
theorem dX8_aloneOnes_42 : decode cX8_aloneOnes 42 = .ok (.iinc 3 1, 3) := by decide +kernel
theorem dX8_aloneOnes_45 : decode cX8_aloneOnes 45 = .ok (.goto (-43), 3) := by decide +kernel
theorem dX8_aloneOnes_48 : decode cX8_aloneOnes 48 = .ok (.return_, 1) := by decide +kernel
theorem dX8_holdNow_0 : decode cX8_holdNow 0 = .ok (.aload_n 0, 1) := by decide +kernel
theorem dX8_holdNow_1 : decode cX8_holdNow 1 = .ok (.iload_n 2, 1) := by decide +kernel
theorem dX8_holdNow_2 : decode cX8_holdNow 2 = .ok (.invokestatic 214, 3) := by decide +kernel
theorem dX8_holdNow_5 : decode cX8_holdNow 5 = .ok (.invokevirtual 217, 3) := by decide +kernel
theorem dX8_holdNow_8 : decode cX8_holdNow 8 = .ok (.iconst 0, 1) := by decide +kernel
theorem dX8_holdNow_9 : decode cX8_holdNow 9 = .ok (.istore 4, 2) := by decide +kernel
theorem dX8_holdNow_11 : decode cX8_holdNow 11 = .ok (.iload 4, 2) := by decide +kernel
theorem dX8_holdNow_13 : decode cX8_holdNow 13 = .ok (.aload_n 0, 1) := by decide +kernel
theorem dX8_holdNow_14 : decode cX8_holdNow 14 = .ok (.getfield 17, 3) := by decide +kernel
theorem dX8_holdNow_17 : decode cX8_holdNow 17 = .ok (.iconst 1, 1) := by decide +kernel
theorem dX8_holdNow_18 : decode cX8_holdNow 18 = .ok (.iload_n 1, 1) := by decide +kernel
theorem dX8_holdNow_19 : decode cX8_holdNow 19 = .ok (.isub, 1) := by decide +kernel
theorem dX8_holdNow_20 : decode cX8_holdNow 20 = .ok (.iaload, 1) := by decide +kernel
theorem dX8_holdNow_21 : decode cX8_holdNow 21 = .ok (.if_icmp .ge 54, 3) := by decide +kernel
theorem dX8_holdNow_24 : decode cX8_holdNow 24 = .ok (.aload_n 0, 1) := by decide +kernel
theorem dX8_holdNow_25 : decode cX8_holdNow 25 = .ok (.getfield 183, 3) := by decide +kernel
theorem dX8_holdNow_28 : decode cX8_holdNow 28 = .ok (.ifCond .ne 47, 3) := by decide +kernel
theorem dX8_holdNow_31 : decode cX8_holdNow 31 = .ok (.iload_n 3, 1) := by decide +kernel
theorem dX8_holdNow_32 : decode cX8_holdNow 32 = .ok (.iload 4, 2) := by decide +kernel
theorem dX8_holdNow_34 : decode cX8_holdNow 34 = .ok (.invokestatic 202, 3) := by decide +kernel
theorem dX8_holdNow_37 : decode cX8_holdNow 37 = .ok (.ifCond .eq 32, 3) := by decide +kernel
theorem dX8_holdNow_40 : decode cX8_holdNow 40 = .ok (.aload_n 0, 1) := by decide +kernel
theorem dX8_holdNow_41 : decode cX8_holdNow 41 = .ok (.iload_n 1, 1) := by decide +kernel
theorem dX8_holdNow_42 : decode cX8_holdNow 42 = .ok (.iload 4, 2) := by decide +kernel
theorem dX8_holdNow_44 : decode cX8_holdNow 44 = .ok (.iload_n 2, 1) := by decide +kernel
theorem dX8_holdNow_45 : decode cX8_holdNow 45 = .ok (.invokevirtual 221, 3) := by decide +kernel
theorem dX8_holdNow_48 : decode cX8_holdNow 48 = .ok (.aload_n 0, 1) := by decide +kernel
theorem dX8_holdNow_49 : decode cX8_holdNow 49 = .ok (.iconst 1, 1) := by decide +kernel
theorem dX8_holdNow_50 : decode cX8_holdNow 50 = .ok (.iload_n 1, 1) := by decide +kernel
theorem dX8_holdNow_51 : decode cX8_holdNow 51 = .ok (.isub, 1) := by decide +kernel
theorem dX8_holdNow_52 : decode cX8_holdNow 52 = .ok (.iload 4, 2) := by decide +kernel
theorem dX8_holdNow_54 : decode cX8_holdNow 54 = .ok (.invokevirtual 156, 3) := by decide +kernel
theorem dX8_holdNow_57 : decode cX8_holdNow 57 = .ok (.ifCond .ne 12, 3) := by decide +kernel
theorem dX8_holdNow_60 : decode cX8_holdNow 60 = .ok (.aload_n 0, 1) := by decide +kernel
theorem dX8_holdNow_61 : decode cX8_holdNow 61 = .ok (.iconst 1, 1) := by decide +kernel
theorem dX8_holdNow_62 : decode cX8_holdNow 62 = .ok (.iload_n 1, 1) := by decide +kernel
theorem dX8_holdNow_63 : decode cX8_holdNow 63 = .ok (.isub, 1) := by decide +kernel
theorem dX8_holdNow_64 : decode cX8_holdNow 64 = .ok (.iload 4, 2) := by decide +kernel
theorem dX8_holdNow_66 : decode cX8_holdNow 66 = .ok (.invokevirtual 211, 3) := by decide +kernel
theorem dX8_holdNow_69 : decode cX8_holdNow 69 = .ok (.iinc 4 1, 3) := by decide +kernel
theorem dX8_holdNow_72 : decode cX8_holdNow 72 = .ok (.goto (-61), 3) := by decide +kernel
theorem dX8_holdNow_75 : decode cX8_holdNow 75 = .ok (.aload_n 0, 1) := by decide +kernel
theorem dX8_holdNow_76 : decode cX8_holdNow 76 = .ok (.iload_n 1, 1) := by decide +kernel
theorem dX8_holdNow_77 : decode cX8_holdNow 77 = .ok (.iload_n 2, 1) := by decide +kernel
theorem dX8_holdNow_78 : decode cX8_holdNow 78 = .ok (.invokevirtual 224, 3) := by decide +kernel
theorem dX8_holdNow_81 : decode cX8_holdNow 81 = .ok (.return_, 1) := by decide +kernel
theorem dX8_firstOf_0 : decode cX8_firstOf 0 = .ok (.iconst 0, 1) := by decide +kernel
theorem dX8_firstOf_1 : decode cX8_firstOf 1 = .ok (.istore_n 3, 1) := by decide +kernel
theorem dX8_firstOf_2 : decode cX8_firstOf 2 = .ok (.iload_n 2, 1) := by decide +kernel
theorem dX8_firstOf_3 : decode cX8_firstOf 3 = .ok (.istore 4, 2) := by decide +kernel
theorem dX8_firstOf_5 : decode cX8_firstOf 5 = .ok (.iconst 0, 1) := by decide +kernel
theorem dX8_firstOf_6 : decode cX8_firstOf 6 = .ok (.istore 5, 2) := by decide +kernel
theorem dX8_firstOf_8 : decode cX8_firstOf 8 = .ok (.iload 5, 2) := by decide +kernel
theorem dX8_firstOf_10 : decode cX8_firstOf 10 = .ok (.bipush 14, 2) := by decide +kernel
theorem dX8_firstOf_12 : decode cX8_firstOf 12 = .ok (.if_icmp .ge 33, 3) := by decide +kernel
theorem dX8_firstOf_15 : decode cX8_firstOf 15 = .ok (.iload_n 1, 1) := by decide +kernel
theorem dX8_firstOf_16 : decode cX8_firstOf 16 = .ok (.iload 5, 2) := by decide +kernel
theorem dX8_firstOf_18 : decode cX8_firstOf 18 = .ok (.invokestatic 202, 3) := by decide +kernel
theorem dX8_firstOf_21 : decode cX8_firstOf 21 = .ok (.ifCond .eq 18, 3) := by decide +kernel
theorem dX8_firstOf_24 : decode cX8_firstOf 24 = .ok (.iload 4, 2) := by decide +kernel
theorem dX8_firstOf_26 : decode cX8_firstOf 26 = .ok (.ifCond .le 13, 3) := by decide +kernel
theorem dX8_firstOf_29 : decode cX8_firstOf 29 = .ok (.iload_n 3, 1) := by decide +kernel
theorem dX8_firstOf_30 : decode cX8_firstOf 30 = .ok (.iconst 1, 1) := by decide +kernel
theorem dX8_firstOf_31 : decode cX8_firstOf 31 = .ok (.iload 5, 2) := by decide +kernel
theorem dX8_firstOf_33 : decode cX8_firstOf 33 = .ok (.ishl, 1) := by decide +kernel
theorem dX8_firstOf_34 : decode cX8_firstOf 34 = .ok (.ior, 1) := by decide +kernel
theorem dX8_firstOf_35 : decode cX8_firstOf 35 = .ok (.istore_n 3, 1) := by decide +kernel
theorem dX8_firstOf_36 : decode cX8_firstOf 36 = .ok (.iinc 4 (-1), 3) := by decide +kernel
theorem dX8_firstOf_39 : decode cX8_firstOf 39 = .ok (.iinc 5 1, 3) := by decide +kernel
theorem dX8_firstOf_42 : decode cX8_firstOf 42 = .ok (.goto (-34), 3) := by decide +kernel
theorem dX8_firstOf_45 : decode cX8_firstOf 45 = .ok (.iload_n 3, 1) := by decide +kernel
theorem dX8_firstOf_46 : decode cX8_firstOf 46 = .ok (.ireturn, 1) := by decide +kernel
theorem dX8_blocksNow_0 : decode cX8_blocksNow 0 = .ok (.iload_n 2, 1) := by decide +kernel
theorem dX8_blocksNow_1 : decode cX8_blocksNow 1 = .ok (.istore 4, 2) := by decide +kernel
theorem dX8_blocksNow_3 : decode cX8_blocksNow 3 = .ok (.iload 4, 2) := by decide +kernel
theorem dX8_blocksNow_5 : decode cX8_blocksNow 5 = .ok (.ifCond .eq 103, 3) := by decide +kernel
theorem dX8_blocksNow_8 : decode cX8_blocksNow 8 = .ok (.aload_n 0, 1) := by decide +kernel
theorem dX8_blocksNow_9 : decode cX8_blocksNow 9 = .ok (.getfield 183, 3) := by decide +kernel
theorem dX8_blocksNow_12 : decode cX8_blocksNow 12 = .ok (.ifCond .ne 96, 3) := by decide +kernel
theorem dX8_blocksNow_15 : decode cX8_blocksNow 15 = .ok (.aload_n 0, 1) := by decide +kernel
theorem dX8_blocksNow_16 : decode cX8_blocksNow 16 = .ok (.iload 4, 2) := by decide +kernel
theorem dX8_blocksNow_18 : decode cX8_blocksNow 18 = .ok (.aload_n 0, 1) := by decide +kernel
theorem dX8_blocksNow_19 : decode cX8_blocksNow 19 = .ok (.getfield 134, 3) := by decide +kernel
theorem dX8_blocksNow_22 : decode cX8_blocksNow 22 = .ok (.invokevirtual 227, 3) := by decide +kernel
theorem dX8_blocksNow_25 : decode cX8_blocksNow 25 = .ok (.istore 5, 2) := by decide +kernel
theorem dX8_blocksNow_27 : decode cX8_blocksNow 27 = .ok (.iload 4, 2) := by decide +kernel
theorem dX8_blocksNow_29 : decode cX8_blocksNow 29 = .ok (.iload 5, 2) := by decide +kernel
theorem dX8_blocksNow_31 : decode cX8_blocksNow 31 = .ok (.iconst (-1), 1) := by decide +kernel
theorem dX8_blocksNow_32 : decode cX8_blocksNow 32 = .ok (.ixor, 1) := by decide +kernel
theorem dX8_blocksNow_33 : decode cX8_blocksNow 33 = .ok (.iand, 1) := by decide +kernel
theorem dX8_blocksNow_34 : decode cX8_blocksNow 34 = .ok (.istore 4, 2) := by decide +kernel
theorem dX8_blocksNow_36 : decode cX8_blocksNow 36 = .ok (.aload_n 0, 1) := by decide +kernel
theorem dX8_blocksNow_37 : decode cX8_blocksNow 37 = .ok (.iload 5, 2) := by decide +kernel
theorem dX8_blocksNow_39 : decode cX8_blocksNow 39 = .ok (.invokestatic 214, 3) := by decide +kernel
theorem dX8_blocksNow_42 : decode cX8_blocksNow 42 = .ok (.invokevirtual 217, 3) := by decide +kernel
theorem dX8_blocksNow_45 : decode cX8_blocksNow 45 = .ok (.aload_n 0, 1) := by decide +kernel
theorem dX8_blocksNow_46 : decode cX8_blocksNow 46 = .ok (.dup, 1) := by decide +kernel
theorem dX8_blocksNow_47 : decode cX8_blocksNow 47 = .ok (.getfield 230, 3) := by decide +kernel
theorem dX8_blocksNow_50 : decode cX8_blocksNow 50 = .ok (.iload_n 3, 1) := by decide +kernel
theorem dX8_blocksNow_51 : decode cX8_blocksNow 51 = .ok (.invokestatic 214, 3) := by decide +kernel
theorem dX8_blocksNow_54 : decode cX8_blocksNow 54 = .ok (.iadd, 1) := by decide +kernel
theorem dX8_blocksNow_55 : decode cX8_blocksNow 55 = .ok (.putfield 230, 3) := by decide +kernel
theorem dX8_blocksNow_58 : decode cX8_blocksNow 58 = .ok (.iconst 0, 1) := by decide +kernel
theorem dX8_blocksNow_59 : decode cX8_blocksNow 59 = .ok (.istore 6, 2) := by decide +kernel
theorem dX8_blocksNow_61 : decode cX8_blocksNow 61 = .ok (.iload 6, 2) := by decide +kernel
theorem dX8_blocksNow_63 : decode cX8_blocksNow 63 = .ok (.aload_n 0, 1) := by decide +kernel
theorem dX8_blocksNow_64 : decode cX8_blocksNow 64 = .ok (.getfield 17, 3) := by decide +kernel
theorem dX8_blocksNow_67 : decode cX8_blocksNow 67 = .ok (.iconst 1, 1) := by decide +kernel
theorem dX8_blocksNow_68 : decode cX8_blocksNow 68 = .ok (.iload_n 1, 1) := by decide +kernel
theorem dX8_blocksNow_69 : decode cX8_blocksNow 69 = .ok (.isub, 1) := by decide +kernel
theorem dX8_blocksNow_70 : decode cX8_blocksNow 70 = .ok (.iaload, 1) := by decide +kernel
theorem dX8_blocksNow_71 : decode cX8_blocksNow 71 = .ok (.if_icmp .ge 34, 3) := by decide +kernel
theorem dX8_blocksNow_74 : decode cX8_blocksNow 74 = .ok (.aload_n 0, 1) := by decide +kernel
theorem dX8_blocksNow_75 : decode cX8_blocksNow 75 = .ok (.getfield 183, 3) := by decide +kernel
theorem dX8_blocksNow_78 : decode cX8_blocksNow 78 = .ok (.ifCond .ne 27, 3) := by decide +kernel
theorem dX8_blocksNow_81 : decode cX8_blocksNow 81 = .ok (.iload_n 3, 1) := by decide +kernel
theorem dX8_blocksNow_82 : decode cX8_blocksNow 82 = .ok (.iload 6, 2) := by decide +kernel
theorem dX8_blocksNow_84 : decode cX8_blocksNow 84 = .ok (.invokestatic 202, 3) := by decide +kernel
theorem dX8_blocksNow_87 : decode cX8_blocksNow 87 = .ok (.ifCond .eq 12, 3) := by decide +kernel
theorem dX8_blocksNow_90 : decode cX8_blocksNow 90 = .ok (.aload_n 0, 1) := by decide +kernel
theorem dX8_blocksNow_91 : decode cX8_blocksNow 91 = .ok (.iload_n 1, 1) := by decide +kernel
theorem dX8_blocksNow_92 : decode cX8_blocksNow 92 = .ok (.iload 6, 2) := by decide +kernel
theorem dX8_blocksNow_94 : decode cX8_blocksNow 94 = .ok (.iload 5, 2) := by decide +kernel
theorem dX8_blocksNow_96 : decode cX8_blocksNow 96 = .ok (.invokevirtual 221, 3) := by decide +kernel
theorem dX8_blocksNow_99 : decode cX8_blocksNow 99 = .ok (.iinc 6 1, 3) := by decide +kernel
theorem dX8_blocksNow_102 : decode cX8_blocksNow 102 = .ok (.goto (-41), 3) := by decide +kernel
theorem dX8_blocksNow_105 : decode cX8_blocksNow 105 = .ok (.goto (-102), 3) := by decide +kernel
theorem dX8_blocksNow_108 : decode cX8_blocksNow 108 = .ok (.aload_n 0, 1) := by decide +kernel
theorem dX8_blocksNow_109 : decode cX8_blocksNow 109 = .ok (.iconst 1, 1) := by decide +kernel
theorem dX8_blocksNow_110 : decode cX8_blocksNow 110 = .ok (.iload_n 1, 1) := by decide +kernel
theorem dX8_blocksNow_111 : decode cX8_blocksNow 111 = .ok (.isub, 1) := by decide +kernel
theorem dX8_blocksNow_112 : decode cX8_blocksNow 112 = .ok (.iload_n 3, 1) := by decide +kernel
theorem dX8_blocksNow_113 : decode cX8_blocksNow 113 = .ok (.invokevirtual 224, 3) := by decide +kernel
theorem dX8_blocksNow_116 : decode cX8_blocksNow 116 = .ok (.aload_n 0, 1) := by decide +kernel
theorem dX8_blocksNow_117 : decode cX8_blocksNow 117 = .ok (.iload_n 1, 1) := by decide +kernel
theorem dX8_blocksNow_118 : decode cX8_blocksNow 118 = .ok (.iload_n 2, 1) := by decide +kernel
theorem dX8_blocksNow_119 : decode cX8_blocksNow 119 = .ok (.invokevirtual 224, 3) := by decide +kernel
theorem dX8_blocksNow_122 : decode cX8_blocksNow 122 = .ok (.return_, 1) := by decide +kernel
theorem dX8_isOneKey_0 : decode cX8_isOneKey 0 = .ok (.iconst (-1), 1) := by decide +kernel
theorem dX8_isOneKey_1 : decode cX8_isOneKey 1 = .ok (.istore_n 3, 1) := by decide +kernel
theorem dX8_isOneKey_2 : decode cX8_isOneKey 2 = .ok (.iconst 1, 1) := by decide +kernel
theorem dX8_isOneKey_3 : decode cX8_isOneKey 3 = .ok (.istore 4, 2) := by decide +kernel
theorem dX8_isOneKey_5 : decode cX8_isOneKey 5 = .ok (.iconst 0, 1) := by decide +kernel
theorem dX8_isOneKey_6 : decode cX8_isOneKey 6 = .ok (.istore 5, 2) := by decide +kernel
theorem dX8_isOneKey_8 : decode cX8_isOneKey 8 = .ok (.iload 5, 2) := by decide +kernel
theorem dX8_isOneKey_10 : decode cX8_isOneKey 10 = .ok (.aload_n 0, 1) := by decide +kernel
theorem dX8_isOneKey_11 : decode cX8_isOneKey 11 = .ok (.getfield 17, 3) := by decide +kernel
theorem dX8_isOneKey_14 : decode cX8_isOneKey 14 = .ok (.iload_n 1, 1) := by decide +kernel
theorem dX8_isOneKey_15 : decode cX8_isOneKey 15 = .ok (.iaload, 1) := by decide +kernel
theorem dX8_isOneKey_16 : decode cX8_isOneKey 16 = .ok (.if_icmp .ge 54, 3) := by decide +kernel
theorem dX8_isOneKey_19 : decode cX8_isOneKey 19 = .ok (.iload_n 2, 1) := by decide +kernel
theorem dX8_isOneKey_20 : decode cX8_isOneKey 20 = .ok (.iload 5, 2) := by decide +kernel
theorem dX8_isOneKey_22 : decode cX8_isOneKey 22 = .ok (.invokestatic 202, 3) := by decide +kernel
theorem dX8_isOneKey_25 : decode cX8_isOneKey 25 = .ok (.ifCond .eq 39, 3) := by decide +kernel
theorem dX8_isOneKey_28 : decode cX8_isOneKey 28 = .ok (.iload 4, 2) := by decide +kernel
theorem dX8_isOneKey_30 : decode cX8_isOneKey 30 = .ok (.ifCond .eq 23, 3) := by decide +kernel
theorem dX8_isOneKey_33 : decode cX8_isOneKey 33 = .ok (.iload_n 3, 1) := by decide +kernel
theorem dX8_isOneKey_34 : decode cX8_isOneKey 34 = .ok (.iconst (-1), 1) := by decide +kernel
theorem dX8_isOneKey_35 : decode cX8_isOneKey 35 = .ok (.if_icmp .eq 14, 3) := by decide +kernel
theorem dX8_isOneKey_38 : decode cX8_isOneKey 38 = .ok (.aload_n 0, 1) := by decide +kernel
theorem dX8_isOneKey_39 : decode cX8_isOneKey 39 = .ok (.iload_n 1, 1) := by decide +kernel
theorem dX8_isOneKey_40 : decode cX8_isOneKey 40 = .ok (.iload 5, 2) := by decide +kernel
theorem dX8_isOneKey_42 : decode cX8_isOneKey 42 = .ok (.invokevirtual 152, 3) := by decide +kernel
theorem dX8_isOneKey_45 : decode cX8_isOneKey 45 = .ok (.iload_n 3, 1) := by decide +kernel
theorem dX8_isOneKey_46 : decode cX8_isOneKey 46 = .ok (.if_icmp .ne 7, 3) := by decide +kernel
theorem dX8_isOneKey_49 : decode cX8_isOneKey 49 = .ok (.iconst 1, 1) := by decide +kernel
theorem dX8_isOneKey_50 : decode cX8_isOneKey 50 = .ok (.goto 4, 3) := by decide +kernel
theorem dX8_isOneKey_53 : decode cX8_isOneKey 53 = .ok (.iconst 0, 1) := by decide +kernel
theorem dX8_isOneKey_54 : decode cX8_isOneKey 54 = .ok (.istore 4, 2) := by decide +kernel
theorem dX8_isOneKey_56 : decode cX8_isOneKey 56 = .ok (.aload_n 0, 1) := by decide +kernel
theorem dX8_isOneKey_57 : decode cX8_isOneKey 57 = .ok (.iload_n 1, 1) := by decide +kernel
theorem dX8_isOneKey_58 : decode cX8_isOneKey 58 = .ok (.iload 5, 2) := by decide +kernel
theorem dX8_isOneKey_60 : decode cX8_isOneKey 60 = .ok (.invokevirtual 152, 3) := by decide +kernel
theorem dX8_isOneKey_63 : decode cX8_isOneKey 63 = .ok (.istore_n 3, 1) := by decide +kernel
theorem dX8_isOneKey_64 : decode cX8_isOneKey 64 = .ok (.iinc 5 1, 3) := by decide +kernel
theorem dX8_isOneKey_67 : decode cX8_isOneKey 67 = .ok (.goto (-59), 3) := by decide +kernel
theorem dX8_isOneKey_70 : decode cX8_isOneKey 70 = .ok (.iload 4, 2) := by decide +kernel
theorem dX8_isOneKey_72 : decode cX8_isOneKey 72 = .ok (.ireturn, 1) := by decide +kernel
theorem dX8_half_0 : decode cX8_half 0 = .ok (.iconst 0, 1) := by decide +kernel
theorem dX8_half_1 : decode cX8_half 1 = .ok (.istore 5, 2) := by decide +kernel
theorem dX8_half_3 : decode cX8_half 3 = .ok (.iconst 0, 1) := by decide +kernel
theorem dX8_half_4 : decode cX8_half 4 = .ok (.istore 6, 2) := by decide +kernel
theorem dX8_half_6 : decode cX8_half 6 = .ok (.iload 6, 2) := by decide +kernel
theorem dX8_half_8 : decode cX8_half 8 = .ok (.aload_n 0, 1) := by decide +kernel
theorem dX8_half_9 : decode cX8_half 9 = .ok (.getfield 17, 3) := by decide +kernel
theorem dX8_half_12 : decode cX8_half 12 = .ok (.iload_n 1, 1) := by decide +kernel
theorem dX8_half_13 : decode cX8_half 13 = .ok (.iaload, 1) := by decide +kernel
theorem dX8_half_14 : decode cX8_half 14 = .ok (.if_icmp .ge 47, 3) := by decide +kernel
theorem dX8_half_17 : decode cX8_half 17 = .ok (.iload 5, 2) := by decide +kernel
theorem dX8_half_19 : decode cX8_half 19 = .ok (.iload_n 2, 1) := by decide +kernel
theorem dX8_half_20 : decode cX8_half 20 = .ok (.iload 6, 2) := by decide +kernel
theorem dX8_half_22 : decode cX8_half 22 = .ok (.invokestatic 202, 3) := by decide +kernel
theorem dX8_half_25 : decode cX8_half 25 = .ok (.ifCond .eq 26, 3) := by decide +kernel
theorem dX8_half_28 : decode cX8_half 28 = .ok (.aload_n 0, 1) := by decide +kernel
theorem dX8_half_29 : decode cX8_half 29 = .ok (.iload_n 1, 1) := by decide +kernel
theorem dX8_half_30 : decode cX8_half 30 = .ok (.iload 6, 2) := by decide +kernel
theorem dX8_half_32 : decode cX8_half 32 = .ok (.invokevirtual 152, 3) := by decide +kernel
theorem dX8_half_35 : decode cX8_half 35 = .ok (.iload_n 3, 1) := by decide +kernel
theorem dX8_half_36 : decode cX8_half 36 = .ok (.ishr, 1) := by decide +kernel
theorem dX8_half_37 : decode cX8_half 37 = .ok (.iconst 1, 1) := by decide +kernel
theorem dX8_half_38 : decode cX8_half 38 = .ok (.iand, 1) := by decide +kernel
theorem dX8_half_39 : decode cX8_half 39 = .ok (.iload 4, 2) := by decide +kernel
theorem dX8_half_41 : decode cX8_half 41 = .ok (.if_icmp .ne 10, 3) := by decide +kernel
theorem dX8_half_44 : decode cX8_half 44 = .ok (.iconst 1, 1) := by decide +kernel
theorem dX8_half_45 : decode cX8_half 45 = .ok (.iload 6, 2) := by decide +kernel
theorem dX8_half_47 : decode cX8_half 47 = .ok (.ishl, 1) := by decide +kernel
theorem dX8_half_48 : decode cX8_half 48 = .ok (.goto 4, 3) := by decide +kernel
theorem dX8_half_51 : decode cX8_half 51 = .ok (.iconst 0, 1) := by decide +kernel
theorem dX8_half_52 : decode cX8_half 52 = .ok (.ior, 1) := by decide +kernel
theorem dX8_half_53 : decode cX8_half 53 = .ok (.istore 5, 2) := by decide +kernel
theorem dX8_half_55 : decode cX8_half 55 = .ok (.iinc 6 1, 3) := by decide +kernel
theorem dX8_half_58 : decode cX8_half 58 = .ok (.goto (-52), 3) := by decide +kernel
theorem dX8_half_61 : decode cX8_half 61 = .ok (.iload 5, 2) := by decide +kernel
theorem dX8_half_63 : decode cX8_half 63 = .ok (.ireturn, 1) := by decide +kernel
theorem dX8_halfOf_0 : decode cX8_halfOf 0 = .ok (.aload_n 0, 1) := by decide +kernel
theorem dX8_halfOf_1 : decode cX8_halfOf 1 = .ok (.iload_n 2, 1) := by decide +kernel
theorem dX8_halfOf_2 : decode cX8_halfOf 2 = .ok (.iload_n 2, 1) := by decide +kernel
theorem dX8_halfOf_3 : decode cX8_halfOf 3 = .ok (.ifCond .ne 12, 3) := by decide +kernel
theorem dX8_halfOf_6 : decode cX8_halfOf 6 = .ok (.aload_n 0, 1) := by decide +kernel
theorem dX8_halfOf_7 : decode cX8_halfOf 7 = .ok (.getfield 51, 3) := by decide +kernel
theorem dX8_halfOf_10 : decode cX8_halfOf 10 = .ok (.iload_n 1, 1) := by decide +kernel
theorem dX8_halfOf_11 : decode cX8_halfOf 11 = .ok (.iaload, 1) := by decide +kernel
theorem dX8_halfOf_12 : decode cX8_halfOf 12 = .ok (.goto 9, 3) := by decide +kernel
theorem dX8_halfOf_15 : decode cX8_halfOf 15 = .ok (.aload_n 0, 1) := by decide +kernel
theorem dX8_halfOf_16 : decode cX8_halfOf 16 = .ok (.getfield 54, 3) := by decide +kernel
theorem dX8_halfOf_19 : decode cX8_halfOf 19 = .ok (.iload_n 1, 1) := by decide +kernel
theorem dX8_halfOf_20 : decode cX8_halfOf 20 = .ok (.iaload, 1) := by decide +kernel
theorem dX8_halfOf_21 : decode cX8_halfOf 21 = .ok (.iload_n 1, 1) := by decide +kernel
theorem dX8_halfOf_22 : decode cX8_halfOf 22 = .ok (.iload_n 3, 1) := by decide +kernel
theorem dX8_halfOf_23 : decode cX8_halfOf 23 = .ok (.invokevirtual 233, 3) := by decide +kernel
theorem dX8_halfOf_26 : decode cX8_halfOf 26 = .ok (.ireturn, 1) := by decide +kernel
theorem dX8_rowsOfHalf_0 : decode cX8_rowsOfHalf 0 = .ok (.aload_n 0, 1) := by decide +kernel
theorem dX8_rowsOfHalf_1 : decode cX8_rowsOfHalf 1 = .ok (.iload_n 1, 1) := by decide +kernel
theorem dX8_rowsOfHalf_2 : decode cX8_rowsOfHalf 2 = .ok (.iconst 0, 1) := by decide +kernel
theorem dX8_rowsOfHalf_3 : decode cX8_rowsOfHalf 3 = .ok (.iload_n 2, 1) := by decide +kernel
theorem dX8_rowsOfHalf_4 : decode cX8_rowsOfHalf 4 = .ok (.invokevirtual 237, 3) := by decide +kernel
theorem dX8_rowsOfHalf_7 : decode cX8_rowsOfHalf 7 = .ok (.invokestatic 214, 3) := by decide +kernel
theorem dX8_rowsOfHalf_10 : decode cX8_rowsOfHalf 10 = .ok (.aload_n 0, 1) := by decide +kernel
theorem dX8_rowsOfHalf_11 : decode cX8_rowsOfHalf 11 = .ok (.iload_n 1, 1) := by decide +kernel
theorem dX8_rowsOfHalf_12 : decode cX8_rowsOfHalf 12 = .ok (.iconst 1, 1) := by decide +kernel
theorem dX8_rowsOfHalf_13 : decode cX8_rowsOfHalf 13 = .ok (.iload_n 2, 1) := by decide +kernel
theorem dX8_rowsOfHalf_14 : decode cX8_rowsOfHalf 14 = .ok (.invokevirtual 237, 3) := by decide +kernel
theorem dX8_rowsOfHalf_17 : decode cX8_rowsOfHalf 17 = .ok (.invokestatic 214, 3) := by decide +kernel
theorem dX8_rowsOfHalf_20 : decode cX8_rowsOfHalf 20 = .ok (.iadd, 1) := by decide +kernel
theorem dX8_rowsOfHalf_21 : decode cX8_rowsOfHalf 21 = .ok (.ireturn, 1) := by decide +kernel
theorem dX8_resident_0 : decode cX8_resident 0 = .ok (.aload_n 0, 1) := by decide +kernel
theorem dX8_resident_1 : decode cX8_resident 1 = .ok (.iload_n 1, 1) := by decide +kernel
theorem dX8_resident_2 : decode cX8_resident 2 = .ok (.iload_n 2, 1) := by decide +kernel
theorem dX8_resident_3 : decode cX8_resident 3 = .ok (.iconst 0, 1) := by decide +kernel
theorem dX8_resident_4 : decode cX8_resident 4 = .ok (.invokevirtual 237, 3) := by decide +kernel
theorem dX8_resident_7 : decode cX8_resident 7 = .ok (.invokestatic 214, 3) := by decide +kernel
theorem dX8_resident_10 : decode cX8_resident 10 = .ok (.istore_n 3, 1) := by decide +kernel
theorem dX8_resident_11 : decode cX8_resident 11 = .ok (.aload_n 0, 1) := by decide +kernel
theorem dX8_resident_12 : decode cX8_resident 12 = .ok (.iload_n 1, 1) := by decide +kernel
theorem dX8_resident_13 : decode cX8_resident 13 = .ok (.iload_n 2, 1) := by decide +kernel
theorem dX8_resident_14 : decode cX8_resident 14 = .ok (.iconst 1, 1) := by decide +kernel
theorem dX8_resident_15 : decode cX8_resident 15 = .ok (.invokevirtual 237, 3) := by decide +kernel
theorem dX8_resident_18 : decode cX8_resident 18 = .ok (.invokestatic 214, 3) := by decide +kernel
theorem dX8_resident_21 : decode cX8_resident 21 = .ok (.istore 4, 2) := by decide +kernel
theorem dX8_resident_23 : decode cX8_resident 23 = .ok (.iload_n 3, 1) := by decide +kernel
theorem dX8_resident_24 : decode cX8_resident 24 = .ok (.aload_n 0, 1) := by decide +kernel
theorem dX8_resident_25 : decode cX8_resident 25 = .ok (.getfield 134, 3) := by decide +kernel
theorem dX8_resident_28 : decode cX8_resident 28 = .ok (.if_icmp .gt 22, 3) := by decide +kernel
theorem dX8_resident_31 : decode cX8_resident 31 = .ok (.iload 4, 2) := by decide +kernel
theorem dX8_resident_33 : decode cX8_resident 33 = .ok (.aload_n 0, 1) := by decide +kernel
theorem dX8_resident_34 : decode cX8_resident 34 = .ok (.getfield 134, 3) := by decide +kernel
theorem dX8_resident_37 : decode cX8_resident 37 = .ok (.if_icmp .gt 9, 3) := by decide +kernel
theorem dX8_resident_40 : decode cX8_resident 40 = .ok (.iload_n 3, 1) := by decide +kernel
theorem dX8_resident_41 : decode cX8_resident 41 = .ok (.iload 4, 2) := by decide +kernel
theorem dX8_resident_43 : decode cX8_resident 43 = .ok (.if_icmp .lt 7, 3) := by decide +kernel
theorem dX8_resident_46 : decode cX8_resident 46 = .ok (.iconst 0, 1) := by decide +kernel
theorem dX8_resident_47 : decode cX8_resident 47 = .ok (.goto 17, 3) := by decide +kernel
theorem dX8_resident_50 : decode cX8_resident 50 = .ok (.iload 4, 2) := by decide +kernel
theorem dX8_resident_52 : decode cX8_resident 52 = .ok (.aload_n 0, 1) := by decide +kernel
theorem dX8_resident_53 : decode cX8_resident 53 = .ok (.getfield 134, 3) := by decide +kernel
theorem dX8_resident_56 : decode cX8_resident 56 = .ok (.if_icmp .gt 7, 3) := by decide +kernel
theorem dX8_resident_59 : decode cX8_resident 59 = .ok (.iconst 1, 1) := by decide +kernel
theorem dX8_resident_60 : decode cX8_resident 60 = .ok (.goto 4, 3) := by decide +kernel
theorem dX8_resident_63 : decode cX8_resident 63 = .ok (.iconst (-1), 1) := by decide +kernel
theorem dX8_resident_64 : decode cX8_resident 64 = .ok (.istore 5, 2) := by decide +kernel
theorem dX8_resident_66 : decode cX8_resident 66 = .ok (.iload 5, 2) := by decide +kernel
theorem dX8_resident_68 : decode cX8_resident 68 = .ok (.iconst (-1), 1) := by decide +kernel
theorem dX8_resident_69 : decode cX8_resident 69 = .ok (.if_icmp .eq 17, 3) := by decide +kernel
theorem dX8_resident_72 : decode cX8_resident 72 = .ok (.aload_n 0, 1) := by decide +kernel
theorem dX8_resident_73 : decode cX8_resident 73 = .ok (.iload_n 1, 1) := by decide +kernel
theorem dX8_resident_74 : decode cX8_resident 74 = .ok (.iload 5, 2) := by decide +kernel
theorem dX8_resident_76 : decode cX8_resident 76 = .ok (.invokevirtual 240, 3) := by decide +kernel
theorem dX8_resident_79 : decode cX8_resident 79 = .ok (.ifCond .ne 7, 3) := by decide +kernel
theorem dX8_resident_82 : decode cX8_resident 82 = .ok (.iconst (-1), 1) := by decide +kernel
theorem dX8_resident_83 : decode cX8_resident 83 = .ok (.goto 5, 3) := by decide +kernel
theorem dX8_resident_86 : decode cX8_resident 86 = .ok (.iload 5, 2) := by decide +kernel
theorem dX8_resident_88 : decode cX8_resident 88 = .ok (.ireturn, 1) := by decide +kernel
theorem dX8_splitNow_0 : decode cX8_splitNow 0 = .ok (.aload_n 0, 1) := by decide +kernel
theorem dX8_splitNow_1 : decode cX8_splitNow 1 = .ok (.dup, 1) := by decide +kernel
theorem dX8_splitNow_2 : decode cX8_splitNow 2 = .ok (.getfield 243, 3) := by decide +kernel
theorem dX8_splitNow_5 : decode cX8_splitNow 5 = .ok (.iconst 1, 1) := by decide +kernel
theorem dX8_splitNow_6 : decode cX8_splitNow 6 = .ok (.iadd, 1) := by decide +kernel
theorem dX8_splitNow_7 : decode cX8_splitNow 7 = .ok (.putfield 243, 3) := by decide +kernel
theorem dX8_splitNow_10 : decode cX8_splitNow 10 = .ok (.aload_n 0, 1) := by decide +kernel
theorem dX8_splitNow_11 : decode cX8_splitNow 11 = .ok (.iconst 2, 1) := by decide +kernel
theorem dX8_splitNow_12 : decode cX8_splitNow 12 = .ok (.invokevirtual 246, 3) := by decide +kernel
theorem dX8_splitNow_15 : decode cX8_splitNow 15 = .ok (.aload_n 0, 1) := by decide +kernel
theorem dX8_splitNow_16 : decode cX8_splitNow 16 = .ok (.getfield 57, 3) := by decide +kernel
theorem dX8_splitNow_19 : decode cX8_splitNow 19 = .ok (.iload_n 1, 1) := by decide +kernel
theorem dX8_splitNow_20 : decode cX8_splitNow 20 = .ok (.iconst 0, 1) := by decide +kernel
theorem dX8_splitNow_21 : decode cX8_splitNow 21 = .ok (.iastore, 1) := by decide +kernel
theorem dX8_splitNow_22 : decode cX8_splitNow 22 = .ok (.aload_n 0, 1) := by decide +kernel
theorem dX8_splitNow_23 : decode cX8_splitNow 23 = .ok (.getfield 63, 3) := by decide +kernel
theorem dX8_splitNow_26 : decode cX8_splitNow 26 = .ok (.iload_n 1, 1) := by decide +kernel
theorem dX8_splitNow_27 : decode cX8_splitNow 27 = .ok (.iconst 0, 1) := by decide +kernel
theorem dX8_splitNow_28 : decode cX8_splitNow 28 = .ok (.iastore, 1) := by decide +kernel
theorem dX8_splitNow_29 : decode cX8_splitNow 29 = .ok (.aload_n 0, 1) := by decide +kernel
theorem dX8_splitNow_30 : decode cX8_splitNow 30 = .ok (.getfield 60, 3) := by decide +kernel
theorem dX8_splitNow_33 : decode cX8_splitNow 33 = .ok (.iload_n 1, 1) := by decide +kernel
theorem dX8_splitNow_34 : decode cX8_splitNow 34 = .ok (.aload_n 0, 1) := by decide +kernel
theorem dX8_splitNow_35 : decode cX8_splitNow 35 = .ok (.iload_n 1, 1) := by decide +kernel
theorem dX8_splitNow_36 : decode cX8_splitNow 36 = .ok (.iload_n 2, 1) := by decide +kernel
theorem dX8_splitNow_37 : decode cX8_splitNow 37 = .ok (.invokevirtual 249, 3) := by decide +kernel
theorem dX8_splitNow_40 : decode cX8_splitNow 40 = .ok (.iastore, 1) := by decide +kernel
theorem dX8_splitNow_41 : decode cX8_splitNow 41 = .ok (.iconst 0, 1) := by decide +kernel
theorem dX8_splitNow_42 : decode cX8_splitNow 42 = .ok (.istore_n 3, 1) := by decide +kernel
theorem dX8_splitNow_43 : decode cX8_splitNow 43 = .ok (.iload_n 3, 1) := by decide +kernel
theorem dX8_splitNow_44 : decode cX8_splitNow 44 = .ok (.iconst 2, 1) := by decide +kernel
theorem dX8_splitNow_45 : decode cX8_splitNow 45 = .ok (.if_icmp .ge 63, 3) := by decide +kernel
theorem dX8_splitNow_48 : decode cX8_splitNow 48 = .ok (.iload_n 3, 1) := by decide +kernel
theorem dX8_splitNow_49 : decode cX8_splitNow 49 = .ok (.aload_n 0, 1) := by decide +kernel
theorem dX8_splitNow_50 : decode cX8_splitNow 50 = .ok (.getfield 60, 3) := by decide +kernel
theorem dX8_splitNow_53 : decode cX8_splitNow 53 = .ok (.iload_n 1, 1) := by decide +kernel
theorem dX8_splitNow_54 : decode cX8_splitNow 54 = .ok (.iaload, 1) := by decide +kernel
theorem dX8_splitNow_55 : decode cX8_splitNow 55 = .ok (.if_icmp .eq 47, 3) := by decide +kernel
theorem dX8_splitNow_58 : decode cX8_splitNow 58 = .ok (.aload_n 0, 1) := by decide +kernel
theorem dX8_splitNow_59 : decode cX8_splitNow 59 = .ok (.iload_n 1, 1) := by decide +kernel
theorem dX8_splitNow_60 : decode cX8_splitNow 60 = .ok (.iload_n 3, 1) := by decide +kernel
theorem dX8_splitNow_61 : decode cX8_splitNow 61 = .ok (.invokevirtual 240, 3) := by decide +kernel
theorem dX8_splitNow_64 : decode cX8_splitNow 64 = .ok (.ifCond .le 38, 3) := by decide +kernel
theorem dX8_splitNow_67 : decode cX8_splitNow 67 = .ok (.aload_n 0, 1) := by decide +kernel
theorem dX8_splitNow_68 : decode cX8_splitNow 68 = .ok (.iconst 3, 1) := by decide +kernel
theorem dX8_splitNow_69 : decode cX8_splitNow 69 = .ok (.invokevirtual 246, 3) := by decide +kernel
theorem dX8_splitNow_72 : decode cX8_splitNow 72 = .ok (.aload_n 0, 1) := by decide +kernel
theorem dX8_splitNow_73 : decode cX8_splitNow 73 = .ok (.iconst 3, 1) := by decide +kernel
theorem dX8_splitNow_74 : decode cX8_splitNow 74 = .ok (.invokevirtual 246, 3) := by decide +kernel
theorem dX8_splitNow_77 : decode cX8_splitNow 77 = .ok (.aload_n 0, 1) := by decide +kernel
theorem dX8_splitNow_78 : decode cX8_splitNow 78 = .ok (.getfield 63, 3) := by decide +kernel
theorem dX8_splitNow_81 : decode cX8_splitNow 81 = .ok (.iload_n 1, 1) := by decide +kernel
theorem dX8_splitNow_82 : decode cX8_splitNow 82 = .ok (.dup2, 1) := by decide +kernel
theorem dX8_splitNow_83 : decode cX8_splitNow 83 = .ok (.iaload, 1) := by decide +kernel
theorem dX8_splitNow_84 : decode cX8_splitNow 84 = .ok (.iconst 2, 1) := by decide +kernel
theorem dX8_splitNow_85 : decode cX8_splitNow 85 = .ok (.iadd, 1) := by decide +kernel
theorem dX8_splitNow_86 : decode cX8_splitNow 86 = .ok (.iastore, 1) := by decide +kernel
theorem dX8_splitNow_87 : decode cX8_splitNow 87 = .ok (.aload_n 0, 1) := by decide +kernel
theorem dX8_splitNow_88 : decode cX8_splitNow 88 = .ok (.dup, 1) := by decide +kernel
theorem dX8_splitNow_89 : decode cX8_splitNow 89 = .ok (.getfield 252, 3) := by decide +kernel
theorem dX8_splitNow_92 : decode cX8_splitNow 92 = .ok (.aload_n 0, 1) := by decide +kernel
theorem dX8_splitNow_93 : decode cX8_splitNow 93 = .ok (.iload_n 1, 1) := by decide +kernel
theorem dX8_splitNow_94 : decode cX8_splitNow 94 = .ok (.iload_n 3, 1) := by decide +kernel
theorem dX8_splitNow_95 : decode cX8_splitNow 95 = .ok (.invokevirtual 240, 3) := by decide +kernel
theorem dX8_splitNow_98 : decode cX8_splitNow 98 = .ok (.iadd, 1) := by decide +kernel
theorem dX8_splitNow_99 : decode cX8_splitNow 99 = .ok (.putfield 252, 3) := by decide +kernel
theorem dX8_splitNow_102 : decode cX8_splitNow 102 = .ok (.iinc 3 1, 3) := by decide +kernel
theorem dX8_splitNow_105 : decode cX8_splitNow 105 = .ok (.goto (-62), 3) := by decide +kernel
theorem dX8_splitNow_108 : decode cX8_splitNow 108 = .ok (.aload_n 0, 1) := by decide +kernel
theorem dX8_splitNow_109 : decode cX8_splitNow 109 = .ok (.getfield 60, 3) := by decide +kernel
theorem dX8_splitNow_112 : decode cX8_splitNow 112 = .ok (.iload_n 1, 1) := by decide +kernel
theorem dX8_splitNow_113 : decode cX8_splitNow 113 = .ok (.iaload, 1) := by decide +kernel
theorem dX8_splitNow_114 : decode cX8_splitNow 114 = .ok (.istore_n 3, 1) := by decide +kernel
theorem dX8_splitNow_115 : decode cX8_splitNow 115 = .ok (.iload_n 3, 1) := by decide +kernel
theorem dX8_splitNow_116 : decode cX8_splitNow 116 = .ok (.iconst (-1), 1) := by decide +kernel
theorem dX8_splitNow_117 : decode cX8_splitNow 117 = .ok (.if_icmp .eq 24, 3) := by decide +kernel
theorem dX8_splitNow_120 : decode cX8_splitNow 120 = .ok (.aload_n 0, 1) := by decide +kernel
theorem dX8_splitNow_121 : decode cX8_splitNow 121 = .ok (.iload_n 2, 1) := by decide +kernel
theorem dX8_splitNow_122 : decode cX8_splitNow 122 = .ok (.aload_n 0, 1) := by decide +kernel
theorem dX8_splitNow_123 : decode cX8_splitNow 123 = .ok (.iload_n 1, 1) := by decide +kernel
theorem dX8_splitNow_124 : decode cX8_splitNow 124 = .ok (.iload_n 2, 1) := by decide +kernel
theorem dX8_splitNow_125 : decode cX8_splitNow 125 = .ok (.iload_n 3, 1) := by decide +kernel
theorem dX8_splitNow_126 : decode cX8_splitNow 126 = .ok (.invokevirtual 237, 3) := by decide +kernel
theorem dX8_splitNow_129 : decode cX8_splitNow 129 = .ok (.aload_n 0, 1) := by decide +kernel
theorem dX8_splitNow_130 : decode cX8_splitNow 130 = .ok (.iload_n 1, 1) := by decide +kernel
theorem dX8_splitNow_131 : decode cX8_splitNow 131 = .ok (.iconst 1, 1) := by decide +kernel
theorem dX8_splitNow_132 : decode cX8_splitNow 132 = .ok (.iload_n 2, 1) := by decide +kernel
theorem dX8_splitNow_133 : decode cX8_splitNow 133 = .ok (.isub, 1) := by decide +kernel
theorem dX8_splitNow_134 : decode cX8_splitNow 134 = .ok (.iload_n 3, 1) := by decide +kernel
theorem dX8_splitNow_135 : decode cX8_splitNow 135 = .ok (.invokevirtual 237, 3) := by decide +kernel
theorem dX8_splitNow_138 : decode cX8_splitNow 138 = .ok (.invokevirtual 255, 3) := by decide +kernel
theorem dX8_splitNow_141 : decode cX8_splitNow 141 = .ok (.return_, 1) := by decide +kernel
theorem dX8_turn_0 : decode cX8_turn 0 = .ok (.iload_n 2, 1) := by decide +kernel
theorem dX8_turn_1 : decode cX8_turn 1 = .ok (.invokestatic 214, 3) := by decide +kernel
theorem dX8_turn_4 : decode cX8_turn 4 = .ok (.iload_n 3, 1) := by decide +kernel
theorem dX8_turn_5 : decode cX8_turn 5 = .ok (.invokestatic 214, 3) := by decide +kernel
theorem dX8_turn_8 : decode cX8_turn 8 = .ok (.if_icmp .ge 7, 3) := by decide +kernel
theorem dX8_turn_11 : decode cX8_turn 11 = .ok (.iconst 0, 1) := by decide +kernel
theorem dX8_turn_12 : decode cX8_turn 12 = .ok (.goto 4, 3) := by decide +kernel
theorem dX8_turn_15 : decode cX8_turn 15 = .ok (.iconst 1, 1) := by decide +kernel
theorem dX8_turn_16 : decode cX8_turn 16 = .ok (.istore 4, 2) := by decide +kernel
theorem dX8_turn_18 : decode cX8_turn 18 = .ok (.iload 4, 2) := by decide +kernel
theorem dX8_turn_20 : decode cX8_turn 20 = .ok (.ifCond .ne 7, 3) := by decide +kernel
theorem dX8_turn_23 : decode cX8_turn 23 = .ok (.iload_n 2, 1) := by decide +kernel
theorem dX8_turn_24 : decode cX8_turn 24 = .ok (.goto 4, 3) := by decide +kernel
theorem dX8_turn_27 : decode cX8_turn 27 = .ok (.iload_n 3, 1) := by decide +kernel
theorem dX8_turn_28 : decode cX8_turn 28 = .ok (.istore 5, 2) := by decide +kernel
theorem dX8_turn_30 : decode cX8_turn 30 = .ok (.iload 4, 2) := by decide +kernel
theorem dX8_turn_32 : decode cX8_turn 32 = .ok (.ifCond .ne 7, 3) := by decide +kernel
theorem dX8_turn_35 : decode cX8_turn 35 = .ok (.iload_n 3, 1) := by decide +kernel
theorem dX8_turn_36 : decode cX8_turn 36 = .ok (.goto 4, 3) := by decide +kernel
theorem dX8_turn_39 : decode cX8_turn 39 = .ok (.iload_n 2, 1) := by decide +kernel
theorem dX8_turn_40 : decode cX8_turn 40 = .ok (.istore 6, 2) := by decide +kernel
theorem dX8_turn_42 : decode cX8_turn 42 = .ok (.aload_n 0, 1) := by decide +kernel
theorem dX8_turn_43 : decode cX8_turn 43 = .ok (.iload_n 1, 1) := by decide +kernel
theorem dX8_turn_44 : decode cX8_turn 44 = .ok (.aload_n 0, 1) := by decide +kernel
theorem dX8_turn_45 : decode cX8_turn 45 = .ok (.getfield 258, 3) := by decide +kernel
theorem dX8_turn_48 : decode cX8_turn 48 = .ok (.if_icmp .le 7, 3) := by decide +kernel
theorem dX8_turn_51 : decode cX8_turn 51 = .ok (.iload_n 1, 1) := by decide +kernel
theorem dX8_turn_52 : decode cX8_turn 52 = .ok (.goto 7, 3) := by decide +kernel
theorem dX8_turn_55 : decode cX8_turn 55 = .ok (.aload_n 0, 1) := by decide +kernel
theorem dX8_turn_56 : decode cX8_turn 56 = .ok (.getfield 258, 3) := by decide +kernel
theorem dX8_turn_59 : decode cX8_turn 59 = .ok (.putfield 258, 3) := by decide +kernel
theorem dX8_turn_62 : decode cX8_turn 62 = .ok (.aload_n 0, 1) := by decide +kernel
theorem dX8_turn_63 : decode cX8_turn 63 = .ok (.dup, 1) := by decide +kernel
theorem dX8_turn_64 : decode cX8_turn 64 = .ok (.getfield 261, 3) := by decide +kernel
theorem dX8_turn_67 : decode cX8_turn 67 = .ok (.iload 4, 2) := by decide +kernel
theorem dX8_turn_69 : decode cX8_turn 69 = .ok (.ifCond .ne 7, 3) := by decide +kernel
theorem dX8_turn_72 : decode cX8_turn 72 = .ok (.iconst 1, 1) := by decide +kernel
theorem dX8_turn_73 : decode cX8_turn 73 = .ok (.goto 4, 3) := by decide +kernel
theorem dX8_turn_76 : decode cX8_turn 76 = .ok (.iconst 0, 1) := by decide +kernel
theorem dX8_turn_77 : decode cX8_turn 77 = .ok (.iadd, 1) := by decide +kernel
theorem dX8_turn_78 : decode cX8_turn 78 = .ok (.putfield 261, 3) := by decide +kernel
theorem dX8_turn_81 : decode cX8_turn 81 = .ok (.iload 5, 2) := by decide +kernel
theorem dX8_turn_83 : decode cX8_turn 83 = .ok (.invokestatic 214, 3) := by decide +kernel
theorem dX8_turn_86 : decode cX8_turn 86 = .ok (.aload_n 0, 1) := by decide +kernel
theorem dX8_turn_87 : decode cX8_turn 87 = .ok (.getfield 134, 3) := by decide +kernel
theorem dX8_turn_90 : decode cX8_turn 90 = .ok (.if_icmp .gt 31, 3) := by decide +kernel
theorem dX8_turn_93 : decode cX8_turn 93 = .ok (.aload_n 0, 1) := by decide +kernel
theorem dX8_turn_94 : decode cX8_turn 94 = .ok (.dup, 1) := by decide +kernel
theorem dX8_turn_95 : decode cX8_turn 95 = .ok (.getfield 264, 3) := by decide +kernel
theorem dX8_turn_98 : decode cX8_turn 98 = .ok (.iconst 1, 1) := by decide +kernel
theorem dX8_turn_99 : decode cX8_turn 99 = .ok (.iadd, 1) := by decide +kernel
theorem dX8_turn_100 : decode cX8_turn 100 = .ok (.putfield 264, 3) := by decide +kernel
theorem dX8_turn_103 : decode cX8_turn 103 = .ok (.aload_n 0, 1) := by decide +kernel
theorem dX8_turn_104 : decode cX8_turn 104 = .ok (.iconst 0, 1) := by decide +kernel
theorem dX8_turn_105 : decode cX8_turn 105 = .ok (.invokevirtual 246, 3) := by decide +kernel
theorem dX8_turn_108 : decode cX8_turn 108 = .ok (.aload_n 0, 1) := by decide +kernel
theorem dX8_turn_109 : decode cX8_turn 109 = .ok (.iload 4, 2) := by decide +kernel
theorem dX8_turn_111 : decode cX8_turn 111 = .ok (.iload 5, 2) := by decide +kernel
theorem dX8_turn_113 : decode cX8_turn 113 = .ok (.iload 6, 2) := by decide +kernel
theorem dX8_turn_115 : decode cX8_turn 115 = .ok (.invokevirtual 255, 3) := by decide +kernel
theorem dX8_turn_118 : decode cX8_turn 118 = .ok (.goto 70, 3) := by decide +kernel
theorem dX8_turn_121 : decode cX8_turn 121 = .ok (.iload_n 1, 1) := by decide +kernel
theorem dX8_turn_122 : decode cX8_turn 122 = .ok (.iconst 4, 1) := by decide +kernel
theorem dX8_turn_123 : decode cX8_turn 123 = .ok (.if_icmp .eq 14, 3) := by decide +kernel
theorem dX8_turn_126 : decode cX8_turn 126 = .ok (.aload_n 0, 1) := by decide +kernel
theorem dX8_turn_127 : decode cX8_turn 127 = .ok (.iload 4, 2) := by decide +kernel
theorem dX8_turn_129 : decode cX8_turn 129 = .ok (.iload 5, 2) := by decide +kernel
theorem dX8_turn_131 : decode cX8_turn 131 = .ok (.invokevirtual 267, 3) := by decide +kernel
theorem dX8_turn_134 : decode cX8_turn 134 = .ok (.ifCond .eq 31, 3) := by decide +kernel
theorem dX8_turn_137 : decode cX8_turn 137 = .ok (.aload_n 0, 1) := by decide +kernel
theorem dX8_turn_138 : decode cX8_turn 138 = .ok (.dup, 1) := by decide +kernel
theorem dX8_turn_139 : decode cX8_turn 139 = .ok (.getfield 270, 3) := by decide +kernel
theorem dX8_turn_142 : decode cX8_turn 142 = .ok (.iconst 1, 1) := by decide +kernel
theorem dX8_turn_143 : decode cX8_turn 143 = .ok (.iadd, 1) := by decide +kernel
theorem dX8_turn_144 : decode cX8_turn 144 = .ok (.putfield 270, 3) := by decide +kernel
theorem dX8_turn_147 : decode cX8_turn 147 = .ok (.aload_n 0, 1) := by decide +kernel
theorem dX8_turn_148 : decode cX8_turn 148 = .ok (.iconst 1, 1) := by decide +kernel
theorem dX8_turn_149 : decode cX8_turn 149 = .ok (.invokevirtual 246, 3) := by decide +kernel
theorem dX8_turn_152 : decode cX8_turn 152 = .ok (.aload_n 0, 1) := by decide +kernel
theorem dX8_turn_153 : decode cX8_turn 153 = .ok (.iload 4, 2) := by decide +kernel
theorem dX8_turn_155 : decode cX8_turn 155 = .ok (.iload 5, 2) := by decide +kernel
theorem dX8_turn_157 : decode cX8_turn 157 = .ok (.iload 6, 2) := by decide +kernel
theorem dX8_turn_159 : decode cX8_turn 159 = .ok (.invokevirtual 273, 3) := by decide +kernel
theorem dX8_turn_162 : decode cX8_turn 162 = .ok (.goto 26, 3) := by decide +kernel
theorem dX8_turn_165 : decode cX8_turn 165 = .ok (.aload_n 0, 1) := by decide +kernel
theorem dX8_turn_166 : decode cX8_turn 166 = .ok (.getfield 51, 3) := by decide +kernel
theorem dX8_turn_169 : decode cX8_turn 169 = .ok (.iload_n 1, 1) := by decide +kernel
theorem dX8_turn_170 : decode cX8_turn 170 = .ok (.iload_n 2, 1) := by decide +kernel
theorem dX8_turn_171 : decode cX8_turn 171 = .ok (.iastore, 1) := by decide +kernel
theorem dX8_turn_172 : decode cX8_turn 172 = .ok (.aload_n 0, 1) := by decide +kernel
theorem dX8_turn_173 : decode cX8_turn 173 = .ok (.getfield 54, 3) := by decide +kernel
theorem dX8_turn_176 : decode cX8_turn 176 = .ok (.iload_n 1, 1) := by decide +kernel
theorem dX8_turn_177 : decode cX8_turn 177 = .ok (.iload_n 3, 1) := by decide +kernel
theorem dX8_turn_178 : decode cX8_turn 178 = .ok (.iastore, 1) := by decide +kernel
theorem dX8_turn_179 : decode cX8_turn 179 = .ok (.aload_n 0, 1) := by decide +kernel
theorem dX8_turn_180 : decode cX8_turn 180 = .ok (.iload_n 1, 1) := by decide +kernel
theorem dX8_turn_181 : decode cX8_turn 181 = .ok (.iload 4, 2) := by decide +kernel
theorem dX8_turn_183 : decode cX8_turn 183 = .ok (.invokevirtual 276, 3) := by decide +kernel
theorem dX8_turn_186 : decode cX8_turn 186 = .ok (.iconst 1, 1) := by decide +kernel
theorem dX8_turn_187 : decode cX8_turn 187 = .ok (.ireturn, 1) := by decide +kernel
theorem dX8_turn_188 : decode cX8_turn 188 = .ok (.aload_n 0, 1) := by decide +kernel
theorem dX8_turn_189 : decode cX8_turn 189 = .ok (.getfield 183, 3) := by decide +kernel
theorem dX8_turn_192 : decode cX8_turn 192 = .ok (.ifCond .ne 7, 3) := by decide +kernel
theorem dX8_turn_195 : decode cX8_turn 195 = .ok (.aload_n 0, 1) := by decide +kernel
theorem dX8_turn_196 : decode cX8_turn 196 = .ok (.invokevirtual 279, 3) := by decide +kernel
theorem dX8_turn_199 : decode cX8_turn 199 = .ok (.iconst 0, 1) := by decide +kernel
theorem dX8_turn_200 : decode cX8_turn 200 = .ok (.ireturn, 1) := by decide +kernel
theorem dX8_shutPart_0 : decode cX8_shutPart 0 = .ok (.iconst 0, 1) := by decide +kernel
theorem dX8_shutPart_1 : decode cX8_shutPart 1 = .ok (.istore_n 2, 1) := by decide +kernel
theorem dX8_shutPart_2 : decode cX8_shutPart 2 = .ok (.iload_n 2, 1) := by decide +kernel
theorem dX8_shutPart_3 : decode cX8_shutPart 3 = .ok (.aload_n 0, 1) := by decide +kernel
theorem dX8_shutPart_4 : decode cX8_shutPart 4 = .ok (.getfield 63, 3) := by decide +kernel
theorem dX8_shutPart_7 : decode cX8_shutPart 7 = .ok (.iload_n 1, 1) := by decide +kernel
theorem dX8_shutPart_8 : decode cX8_shutPart 8 = .ok (.iaload, 1) := by decide +kernel
theorem dX8_shutPart_9 : decode cX8_shutPart 9 = .ok (.if_icmp .ge 13, 3) := by decide +kernel
theorem dX8_shutPart_12 : decode cX8_shutPart 12 = .ok (.aload_n 0, 1) := by decide +kernel
theorem dX8_shutPart_13 : decode cX8_shutPart 13 = .ok (.invokevirtual 279, 3) := by decide +kernel
theorem dX8_shutPart_16 : decode cX8_shutPart 16 = .ok (.iinc 2 1, 3) := by decide +kernel
theorem dX8_shutPart_19 : decode cX8_shutPart 19 = .ok (.goto (-17), 3) := by decide +kernel
theorem dX8_shutPart_22 : decode cX8_shutPart 22 = .ok (.aload_n 0, 1) := by decide +kernel
theorem dX8_shutPart_23 : decode cX8_shutPart 23 = .ok (.invokevirtual 279, 3) := by decide +kernel
theorem dX8_shutPart_26 : decode cX8_shutPart 26 = .ok (.return_, 1) := by decide +kernel
theorem dX8_nextHalf_0 : decode cX8_nextHalf 0 = .ok (.aload_n 0, 1) := by decide +kernel
theorem dX8_nextHalf_1 : decode cX8_nextHalf 1 = .ok (.getfield 57, 3) := by decide +kernel
theorem dX8_nextHalf_4 : decode cX8_nextHalf 4 = .ok (.iload_n 1, 1) := by decide +kernel
theorem dX8_nextHalf_5 : decode cX8_nextHalf 5 = .ok (.iaload, 1) := by decide +kernel
theorem dX8_nextHalf_6 : decode cX8_nextHalf 6 = .ok (.istore_n 2, 1) := by decide +kernel
theorem dX8_nextHalf_7 : decode cX8_nextHalf 7 = .ok (.iload_n 2, 1) := by decide +kernel
theorem dX8_nextHalf_8 : decode cX8_nextHalf 8 = .ok (.iconst 2, 1) := by decide +kernel
theorem dX8_nextHalf_9 : decode cX8_nextHalf 9 = .ok (.if_icmp .ge 28, 3) := by decide +kernel
theorem dX8_nextHalf_12 : decode cX8_nextHalf 12 = .ok (.iload_n 2, 1) := by decide +kernel
theorem dX8_nextHalf_13 : decode cX8_nextHalf 13 = .ok (.aload_n 0, 1) := by decide +kernel
theorem dX8_nextHalf_14 : decode cX8_nextHalf 14 = .ok (.getfield 60, 3) := by decide +kernel
theorem dX8_nextHalf_17 : decode cX8_nextHalf 17 = .ok (.iload_n 1, 1) := by decide +kernel
theorem dX8_nextHalf_18 : decode cX8_nextHalf 18 = .ok (.iaload, 1) := by decide +kernel
theorem dX8_nextHalf_19 : decode cX8_nextHalf 19 = .ok (.if_icmp .eq 12, 3) := by decide +kernel
theorem dX8_nextHalf_22 : decode cX8_nextHalf 22 = .ok (.aload_n 0, 1) := by decide +kernel
theorem dX8_nextHalf_23 : decode cX8_nextHalf 23 = .ok (.iload_n 1, 1) := by decide +kernel
theorem dX8_nextHalf_24 : decode cX8_nextHalf 24 = .ok (.iload_n 2, 1) := by decide +kernel
theorem dX8_nextHalf_25 : decode cX8_nextHalf 25 = .ok (.invokevirtual 240, 3) := by decide +kernel
theorem dX8_nextHalf_28 : decode cX8_nextHalf 28 = .ok (.ifCond .ne 9, 3) := by decide +kernel
theorem dX8_nextHalf_31 : decode cX8_nextHalf 31 = .ok (.iinc 2 1, 3) := by decide +kernel
theorem dX8_nextHalf_34 : decode cX8_nextHalf 34 = .ok (.goto (-27), 3) := by decide +kernel
theorem dX8_nextHalf_37 : decode cX8_nextHalf 37 = .ok (.aload_n 0, 1) := by decide +kernel
theorem dX8_nextHalf_38 : decode cX8_nextHalf 38 = .ok (.getfield 57, 3) := by decide +kernel
theorem dX8_nextHalf_41 : decode cX8_nextHalf 41 = .ok (.iload_n 1, 1) := by decide +kernel
theorem dX8_nextHalf_42 : decode cX8_nextHalf 42 = .ok (.iload_n 2, 1) := by decide +kernel
theorem dX8_nextHalf_43 : decode cX8_nextHalf 43 = .ok (.iconst 1, 1) := by decide +kernel
theorem dX8_nextHalf_44 : decode cX8_nextHalf 44 = .ok (.iadd, 1) := by decide +kernel
theorem dX8_nextHalf_45 : decode cX8_nextHalf 45 = .ok (.iastore, 1) := by decide +kernel
theorem dX8_nextHalf_46 : decode cX8_nextHalf 46 = .ok (.iload_n 2, 1) := by decide +kernel
theorem dX8_nextHalf_47 : decode cX8_nextHalf 47 = .ok (.iconst 2, 1) := by decide +kernel
theorem dX8_nextHalf_48 : decode cX8_nextHalf 48 = .ok (.if_icmp .ge 7, 3) := by decide +kernel
theorem dX8_nextHalf_51 : decode cX8_nextHalf 51 = .ok (.iload_n 2, 1) := by decide +kernel
theorem dX8_nextHalf_52 : decode cX8_nextHalf 52 = .ok (.goto 4, 3) := by decide +kernel
theorem dX8_nextHalf_55 : decode cX8_nextHalf 55 = .ok (.iconst (-1), 1) := by decide +kernel
theorem dX8_nextHalf_56 : decode cX8_nextHalf 56 = .ok (.ireturn, 1) := by decide +kernel
theorem dX8_withKeys_0 : decode cX8_withKeys 0 = .ok (.iconst 0, 1) := by decide +kernel
theorem dX8_withKeys_1 : decode cX8_withKeys 1 = .ok (.istore_n 3, 1) := by decide +kernel
theorem dX8_withKeys_2 : decode cX8_withKeys 2 = .ok (.iconst 0, 1) := by decide +kernel
theorem dX8_withKeys_3 : decode cX8_withKeys 3 = .ok (.istore 4, 2) := by decide +kernel
theorem dX8_withKeys_5 : decode cX8_withKeys 5 = .ok (.iload 4, 2) := by decide +kernel
theorem dX8_withKeys_7 : decode cX8_withKeys 7 = .ok (.aload_n 0, 1) := by decide +kernel
theorem dX8_withKeys_8 : decode cX8_withKeys 8 = .ok (.getfield 17, 3) := by decide +kernel
theorem dX8_withKeys_11 : decode cX8_withKeys 11 = .ok (.iload_n 1, 1) := by decide +kernel
theorem dX8_withKeys_12 : decode cX8_withKeys 12 = .ok (.iaload, 1) := by decide +kernel
theorem dX8_withKeys_13 : decode cX8_withKeys 13 = .ok (.if_icmp .ge 40, 3) := by decide +kernel
theorem dX8_withKeys_16 : decode cX8_withKeys 16 = .ok (.iload_n 3, 1) := by decide +kernel
theorem dX8_withKeys_17 : decode cX8_withKeys 17 = .ok (.aload_n 0, 1) := by decide +kernel
theorem dX8_withKeys_18 : decode cX8_withKeys 18 = .ok (.iload_n 1, 1) := by decide +kernel
theorem dX8_withKeys_19 : decode cX8_withKeys 19 = .ok (.iload 4, 2) := by decide +kernel
theorem dX8_withKeys_21 : decode cX8_withKeys 21 = .ok (.invokevirtual 152, 3) := by decide +kernel
theorem dX8_withKeys_24 : decode cX8_withKeys 24 = .ok (.iconst (-1), 1) := by decide +kernel
theorem dX8_withKeys_25 : decode cX8_withKeys 25 = .ok (.if_icmp .eq 7, 3) := by decide +kernel
theorem dX8_withKeys_28 : decode cX8_withKeys 28 = .ok (.iconst 1, 1) := by decide +kernel
theorem dX8_withKeys_29 : decode cX8_withKeys 29 = .ok (.goto 4, 3) := by decide +kernel
theorem dX8_withKeys_32 : decode cX8_withKeys 32 = .ok (.iconst 0, 1) := by decide +kernel
theorem dX8_withKeys_33 : decode cX8_withKeys 33 = .ok (.iload_n 2, 1) := by decide +kernel
theorem dX8_withKeys_34 : decode cX8_withKeys 34 = .ok (.if_icmp .ne 10, 3) := by decide +kernel
theorem dX8_withKeys_37 : decode cX8_withKeys 37 = .ok (.iconst 1, 1) := by decide +kernel
theorem dX8_withKeys_38 : decode cX8_withKeys 38 = .ok (.iload 4, 2) := by decide +kernel
theorem dX8_withKeys_40 : decode cX8_withKeys 40 = .ok (.ishl, 1) := by decide +kernel
theorem dX8_withKeys_41 : decode cX8_withKeys 41 = .ok (.goto 4, 3) := by decide +kernel
theorem dX8_withKeys_44 : decode cX8_withKeys 44 = .ok (.iconst 0, 1) := by decide +kernel
theorem dX8_withKeys_45 : decode cX8_withKeys 45 = .ok (.ior, 1) := by decide +kernel
theorem dX8_withKeys_46 : decode cX8_withKeys 46 = .ok (.istore_n 3, 1) := by decide +kernel
theorem dX8_withKeys_47 : decode cX8_withKeys 47 = .ok (.iinc 4 1, 3) := by decide +kernel
theorem dX8_withKeys_50 : decode cX8_withKeys 50 = .ok (.goto (-45), 3) := by decide +kernel
theorem dX8_withKeys_53 : decode cX8_withKeys 53 = .ok (.iload_n 3, 1) := by decide +kernel
theorem dX8_withKeys_54 : decode cX8_withKeys 54 = .ok (.ireturn, 1) := by decide +kernel
theorem dX8_clearRun_0 : decode cX8_clearRun 0 = .ok (.aload_n 0, 1) := by decide +kernel
theorem dX8_clearRun_1 : decode cX8_clearRun 1 = .ok (.iconst 0, 1) := by decide +kernel
theorem dX8_clearRun_2 : decode cX8_clearRun 2 = .ok (.putfield 183, 3) := by decide +kernel
theorem dX8_clearRun_5 : decode cX8_clearRun 5 = .ok (.aload_n 0, 1) := by decide +kernel
theorem dX8_clearRun_6 : decode cX8_clearRun 6 = .ok (.iconst 0, 1) := by decide +kernel
theorem dX8_clearRun_7 : decode cX8_clearRun 7 = .ok (.putfield 199, 3) := by decide +kernel
theorem dX8_clearRun_10 : decode cX8_clearRun 10 = .ok (.aload_n 0, 1) := by decide +kernel
theorem dX8_clearRun_11 : decode cX8_clearRun 11 = .ok (.iconst 0, 1) := by decide +kernel
theorem dX8_clearRun_12 : decode cX8_clearRun 12 = .ok (.putfield 186, 3) := by decide +kernel
theorem dX8_clearRun_15 : decode cX8_clearRun 15 = .ok (.aload_n 0, 1) := by decide +kernel
theorem dX8_clearRun_16 : decode cX8_clearRun 16 = .ok (.iconst 0, 1) := by decide +kernel
theorem dX8_clearRun_17 : decode cX8_clearRun 17 = .ok (.putfield 252, 3) := by decide +kernel
theorem dX8_clearRun_20 : decode cX8_clearRun 20 = .ok (.aload_n 0, 1) := by decide +kernel
theorem dX8_clearRun_21 : decode cX8_clearRun 21 = .ok (.iconst 0, 1) := by decide +kernel
theorem dX8_clearRun_22 : decode cX8_clearRun 22 = .ok (.putfield 230, 3) := by decide +kernel
theorem dX8_clearRun_25 : decode cX8_clearRun 25 = .ok (.aload_n 0, 1) := by decide +kernel
theorem dX8_clearRun_26 : decode cX8_clearRun 26 = .ok (.iconst 0, 1) := by decide +kernel
theorem dX8_clearRun_27 : decode cX8_clearRun 27 = .ok (.putfield 205, 3) := by decide +kernel
theorem dX8_clearRun_30 : decode cX8_clearRun 30 = .ok (.aload_n 0, 1) := by decide +kernel
theorem dX8_clearRun_31 : decode cX8_clearRun 31 = .ok (.iconst (-1), 1) := by decide +kernel
theorem dX8_clearRun_32 : decode cX8_clearRun 32 = .ok (.putfield 258, 3) := by decide +kernel
theorem dX8_clearRun_35 : decode cX8_clearRun 35 = .ok (.aload_n 0, 1) := by decide +kernel
theorem dX8_clearRun_36 : decode cX8_clearRun 36 = .ok (.iconst 0, 1) := by decide +kernel
theorem dX8_clearRun_37 : decode cX8_clearRun 37 = .ok (.putfield 264, 3) := by decide +kernel
theorem dX8_clearRun_40 : decode cX8_clearRun 40 = .ok (.aload_n 0, 1) := by decide +kernel
theorem dX8_clearRun_41 : decode cX8_clearRun 41 = .ok (.iconst 0, 1) := by decide +kernel
theorem dX8_clearRun_42 : decode cX8_clearRun 42 = .ok (.putfield 270, 3) := by decide +kernel
theorem dX8_clearRun_45 : decode cX8_clearRun 45 = .ok (.aload_n 0, 1) := by decide +kernel
theorem dX8_clearRun_46 : decode cX8_clearRun 46 = .ok (.iconst 0, 1) := by decide +kernel
theorem dX8_clearRun_47 : decode cX8_clearRun 47 = .ok (.putfield 243, 3) := by decide +kernel
theorem dX8_clearRun_50 : decode cX8_clearRun 50 = .ok (.aload_n 0, 1) := by decide +kernel
theorem dX8_clearRun_51 : decode cX8_clearRun 51 = .ok (.iconst 0, 1) := by decide +kernel
theorem dX8_clearRun_52 : decode cX8_clearRun 52 = .ok (.putfield 261, 3) := by decide +kernel
theorem dX8_clearRun_55 : decode cX8_clearRun 55 = .ok (.aload_n 0, 1) := by decide +kernel
theorem dX8_clearRun_56 : decode cX8_clearRun 56 = .ok (.iconst 0, 1) := by decide +kernel
theorem dX8_clearRun_57 : decode cX8_clearRun 57 = .ok (.putfield 170, 3) := by decide +kernel
theorem dX8_clearRun_60 : decode cX8_clearRun 60 = .ok (.aload_n 0, 1) := by decide +kernel
theorem dX8_clearRun_61 : decode cX8_clearRun 61 = .ok (.iconst 0, 1) := by decide +kernel
theorem dX8_clearRun_62 : decode cX8_clearRun 62 = .ok (.putfield 176, 3) := by decide +kernel
theorem dX8_clearRun_65 : decode cX8_clearRun 65 = .ok (.aload_n 0, 1) := by decide +kernel
theorem dX8_clearRun_66 : decode cX8_clearRun 66 = .ok (.iconst 0, 1) := by decide +kernel
theorem dX8_clearRun_67 : decode cX8_clearRun 67 = .ok (.putfield 173, 3) := by decide +kernel
theorem dX8_clearRun_70 : decode cX8_clearRun 70 = .ok (.return_, 1) := by decide +kernel
theorem dX8_runNow_0 : decode cX8_runNow 0 = .ok (.aload_n 0, 1) := by decide +kernel
theorem dX8_runNow_1 : decode cX8_runNow 1 = .ok (.invokevirtual 282, 3) := by decide +kernel
theorem dX8_runNow_4 : decode cX8_runNow 4 = .ok (.aload_n 0, 1) := by decide +kernel
theorem dX8_runNow_5 : decode cX8_runNow 5 = .ok (.iload_n 1, 1) := by decide +kernel
theorem dX8_runNow_6 : decode cX8_runNow 6 = .ok (.putfield 189, 3) := by decide +kernel
theorem dX8_runNow_9 : decode cX8_runNow 9 = .ok (.aload_n 0, 1) := by decide +kernel
theorem dX8_runNow_10 : decode cX8_runNow 10 = .ok (.iconst 0, 1) := by decide +kernel
theorem dX8_runNow_11 : decode cX8_runNow 11 = .ok (.iconst 1, 1) := by decide +kernel
theorem dX8_runNow_12 : decode cX8_runNow 12 = .ok (.invokevirtual 285, 3) := by decide +kernel
theorem dX8_runNow_15 : decode cX8_runNow 15 = .ok (.istore_n 2, 1) := by decide +kernel
theorem dX8_runNow_16 : decode cX8_runNow 16 = .ok (.aload_n 0, 1) := by decide +kernel
theorem dX8_runNow_17 : decode cX8_runNow 17 = .ok (.iconst 1, 1) := by decide +kernel
theorem dX8_runNow_18 : decode cX8_runNow 18 = .ok (.iconst 1, 1) := by decide +kernel
theorem dX8_runNow_19 : decode cX8_runNow 19 = .ok (.invokevirtual 285, 3) := by decide +kernel
theorem dX8_runNow_22 : decode cX8_runNow 22 = .ok (.istore_n 3, 1) := by decide +kernel
theorem dX8_runNow_23 : decode cX8_runNow 23 = .ok (.iload_n 2, 1) := by decide +kernel
theorem dX8_runNow_24 : decode cX8_runNow 24 = .ok (.iload_n 3, 1) := by decide +kernel
theorem dX8_runNow_25 : decode cX8_runNow 25 = .ok (.ior, 1) := by decide +kernel
theorem dX8_runNow_26 : decode cX8_runNow 26 = .ok (.ifCond .eq 17, 3) := by decide +kernel
theorem dX8_runNow_29 : decode cX8_runNow 29 = .ok (.aload_n 0, 1) := by decide +kernel
theorem dX8_runNow_30 : decode cX8_runNow 30 = .ok (.iconst 0, 1) := by decide +kernel
theorem dX8_runNow_31 : decode cX8_runNow 31 = .ok (.iload_n 2, 1) := by decide +kernel
theorem dX8_runNow_32 : decode cX8_runNow 32 = .ok (.iload_n 3, 1) := by decide +kernel
theorem dX8_runNow_33 : decode cX8_runNow 33 = .ok (.invokevirtual 289, 3) := by decide +kernel
theorem dX8_runNow_36 : decode cX8_runNow 36 = .ok (.ifCond .eq 7, 3) := by decide +kernel
theorem dX8_runNow_39 : decode cX8_runNow 39 = .ok (.iconst 0, 1) := by decide +kernel
theorem dX8_runNow_40 : decode cX8_runNow 40 = .ok (.goto 4, 3) := by decide +kernel
theorem dX8_runNow_43 : decode cX8_runNow 43 = .ok (.iconst (-1), 1) := by decide +kernel
theorem dX8_runNow_44 : decode cX8_runNow 44 = .ok (.istore 4, 2) := by decide +kernel
theorem dX8_runNow_46 : decode cX8_runNow 46 = .ok (.iload 4, 2) := by decide +kernel
theorem dX8_runNow_48 : decode cX8_runNow 48 = .ok (.ifCond .lt 95, 3) := by decide +kernel
theorem dX8_runNow_51 : decode cX8_runNow 51 = .ok (.aload_n 0, 1) := by decide +kernel
theorem dX8_runNow_52 : decode cX8_runNow 52 = .ok (.getfield 183, 3) := by decide +kernel
theorem dX8_runNow_55 : decode cX8_runNow 55 = .ok (.ifCond .ne 88, 3) := by decide +kernel
theorem dX8_runNow_58 : decode cX8_runNow 58 = .ok (.aload_n 0, 1) := by decide +kernel
theorem dX8_runNow_59 : decode cX8_runNow 59 = .ok (.iload 4, 2) := by decide +kernel
theorem dX8_runNow_61 : decode cX8_runNow 61 = .ok (.invokevirtual 292, 3) := by decide +kernel
theorem dX8_runNow_64 : decode cX8_runNow 64 = .ok (.istore 5, 2) := by decide +kernel
theorem dX8_runNow_66 : decode cX8_runNow 66 = .ok (.iload 5, 2) := by decide +kernel
theorem dX8_runNow_68 : decode cX8_runNow 68 = .ok (.iconst (-1), 1) := by decide +kernel
theorem dX8_runNow_69 : decode cX8_runNow 69 = .ok (.if_icmp .ne 15, 3) := by decide +kernel
theorem dX8_runNow_72 : decode cX8_runNow 72 = .ok (.aload_n 0, 1) := by decide +kernel
theorem dX8_runNow_73 : decode cX8_runNow 73 = .ok (.iload 4, 2) := by decide +kernel
theorem dX8_runNow_75 : decode cX8_runNow 75 = .ok (.invokevirtual 295, 3) := by decide +kernel
theorem dX8_runNow_78 : decode cX8_runNow 78 = .ok (.iinc 4 (-1), 3) := by decide +kernel
theorem dX8_runNow_81 : decode cX8_runNow 81 = .ok (.goto 59, 3) := by decide +kernel
theorem dX8_runNow_84 : decode cX8_runNow 84 = .ok (.aload_n 0, 1) := by decide +kernel
theorem dX8_runNow_85 : decode cX8_runNow 85 = .ok (.dup, 1) := by decide +kernel
theorem dX8_runNow_86 : decode cX8_runNow 86 = .ok (.getfield 230, 3) := by decide +kernel
theorem dX8_runNow_89 : decode cX8_runNow 89 = .ok (.aload_n 0, 1) := by decide +kernel
theorem dX8_runNow_90 : decode cX8_runNow 90 = .ok (.iload 4, 2) := by decide +kernel
theorem dX8_runNow_92 : decode cX8_runNow 92 = .ok (.iload 5, 2) := by decide +kernel
theorem dX8_runNow_94 : decode cX8_runNow 94 = .ok (.invokevirtual 240, 3) := by decide +kernel
theorem dX8_runNow_97 : decode cX8_runNow 97 = .ok (.iadd, 1) := by decide +kernel
theorem dX8_runNow_98 : decode cX8_runNow 98 = .ok (.putfield 230, 3) := by decide +kernel
theorem dX8_runNow_101 : decode cX8_runNow 101 = .ok (.iload 4, 2) := by decide +kernel
theorem dX8_runNow_103 : decode cX8_runNow 103 = .ok (.aload_n 0, 1) := by decide +kernel
theorem dX8_runNow_104 : decode cX8_runNow 104 = .ok (.iload 4, 2) := by decide +kernel
theorem dX8_runNow_106 : decode cX8_runNow 106 = .ok (.iconst 1, 1) := by decide +kernel
theorem dX8_runNow_107 : decode cX8_runNow 107 = .ok (.iadd, 1) := by decide +kernel
theorem dX8_runNow_108 : decode cX8_runNow 108 = .ok (.aload_n 0, 1) := by decide +kernel
theorem dX8_runNow_109 : decode cX8_runNow 109 = .ok (.iload 4, 2) := by decide +kernel
theorem dX8_runNow_111 : decode cX8_runNow 111 = .ok (.iconst 0, 1) := by decide +kernel
theorem dX8_runNow_112 : decode cX8_runNow 112 = .ok (.iload 5, 2) := by decide +kernel
theorem dX8_runNow_114 : decode cX8_runNow 114 = .ok (.invokevirtual 237, 3) := by decide +kernel
theorem dX8_runNow_117 : decode cX8_runNow 117 = .ok (.aload_n 0, 1) := by decide +kernel
theorem dX8_runNow_118 : decode cX8_runNow 118 = .ok (.iload 4, 2) := by decide +kernel
theorem dX8_runNow_120 : decode cX8_runNow 120 = .ok (.iconst 1, 1) := by decide +kernel
theorem dX8_runNow_121 : decode cX8_runNow 121 = .ok (.iload 5, 2) := by decide +kernel
theorem dX8_runNow_123 : decode cX8_runNow 123 = .ok (.invokevirtual 237, 3) := by decide +kernel
theorem dX8_runNow_126 : decode cX8_runNow 126 = .ok (.invokevirtual 289, 3) := by decide +kernel
theorem dX8_runNow_129 : decode cX8_runNow 129 = .ok (.ifCond .eq 7, 3) := by decide +kernel
theorem dX8_runNow_132 : decode cX8_runNow 132 = .ok (.iconst 1, 1) := by decide +kernel
theorem dX8_runNow_133 : decode cX8_runNow 133 = .ok (.goto 4, 3) := by decide +kernel
theorem dX8_runNow_136 : decode cX8_runNow 136 = .ok (.iconst 0, 1) := by decide +kernel
theorem dX8_runNow_137 : decode cX8_runNow 137 = .ok (.iadd, 1) := by decide +kernel
theorem dX8_runNow_138 : decode cX8_runNow 138 = .ok (.istore 4, 2) := by decide +kernel
theorem dX8_runNow_140 : decode cX8_runNow 140 = .ok (.goto (-94), 3) := by decide +kernel
theorem dX8_runNow_143 : decode cX8_runNow 143 = .ok (.aload_n 0, 1) := by decide +kernel
theorem dX8_runNow_144 : decode cX8_runNow 144 = .ok (.iconst 0, 1) := by decide +kernel
theorem dX8_runNow_145 : decode cX8_runNow 145 = .ok (.aload_n 0, 1) := by decide +kernel
theorem dX8_runNow_146 : decode cX8_runNow 146 = .ok (.iconst 0, 1) := by decide +kernel
theorem dX8_runNow_147 : decode cX8_runNow 147 = .ok (.iconst 0, 1) := by decide +kernel
theorem dX8_runNow_148 : decode cX8_runNow 148 = .ok (.invokevirtual 285, 3) := by decide +kernel
theorem dX8_runNow_151 : decode cX8_runNow 151 = .ok (.invokevirtual 224, 3) := by decide +kernel
theorem dX8_runNow_154 : decode cX8_runNow 154 = .ok (.aload_n 0, 1) := by decide +kernel
theorem dX8_runNow_155 : decode cX8_runNow 155 = .ok (.iconst 1, 1) := by decide +kernel
theorem dX8_runNow_156 : decode cX8_runNow 156 = .ok (.aload_n 0, 1) := by decide +kernel
theorem dX8_runNow_157 : decode cX8_runNow 157 = .ok (.iconst 1, 1) := by decide +kernel
theorem dX8_runNow_158 : decode cX8_runNow 158 = .ok (.iconst 0, 1) := by decide +kernel
theorem dX8_runNow_159 : decode cX8_runNow 159 = .ok (.invokevirtual 285, 3) := by decide +kernel
theorem dX8_runNow_162 : decode cX8_runNow 162 = .ok (.invokevirtual 224, 3) := by decide +kernel
theorem dX8_runNow_165 : decode cX8_runNow 165 = .ok (.aload_n 0, 1) := by decide +kernel
theorem dX8_runNow_166 : decode cX8_runNow 166 = .ok (.getfield 173, 3) := by decide +kernel
theorem dX8_runNow_169 : decode cX8_runNow 169 = .ok (.ifCond .le 10, 3) := by decide +kernel
theorem dX8_runNow_172 : decode cX8_runNow 172 = .ok (.aload_n 0, 1) := by decide +kernel
theorem dX8_runNow_173 : decode cX8_runNow 173 = .ok (.invokevirtual 279, 3) := by decide +kernel
theorem dX8_runNow_176 : decode cX8_runNow 176 = .ok (.goto (-11), 3) := by decide +kernel
theorem dX8_runNow_179 : decode cX8_runNow 179 = .ok (.return_, 1) := by decide +kernel
theorem dX8_clearTold_0 : decode cX8_clearTold 0 = .ok (.aload_n 0, 1) := by decide +kernel
theorem dX8_clearTold_1 : decode cX8_clearTold 1 = .ok (.iconst 0, 1) := by decide +kernel
theorem dX8_clearTold_2 : decode cX8_clearTold 2 = .ok (.putfield 298, 3) := by decide +kernel
theorem dX8_clearTold_5 : decode cX8_clearTold 5 = .ok (.aload_n 0, 1) := by decide +kernel
theorem dX8_clearTold_6 : decode cX8_clearTold 6 = .ok (.iconst 0, 1) := by decide +kernel
theorem dX8_clearTold_7 : decode cX8_clearTold 7 = .ok (.putfield 301, 3) := by decide +kernel
theorem dX8_clearTold_10 : decode cX8_clearTold 10 = .ok (.iconst 0, 1) := by decide +kernel
theorem dX8_clearTold_11 : decode cX8_clearTold 11 = .ok (.istore_n 1, 1) := by decide +kernel
theorem dX8_clearTold_12 : decode cX8_clearTold 12 = .ok (.iload_n 1, 1) := by decide +kernel
theorem dX8_clearTold_13 : decode cX8_clearTold 13 = .ok (.bipush 10, 2) := by decide +kernel
theorem dX8_clearTold_15 : decode cX8_clearTold 15 = .ok (.if_icmp .ge 25, 3) := by decide +kernel
theorem dX8_clearTold_18 : decode cX8_clearTold 18 = .ok (.aload_n 0, 1) := by decide +kernel
theorem dX8_clearTold_19 : decode cX8_clearTold 19 = .ok (.getfield 66, 3) := by decide +kernel
theorem dX8_clearTold_22 : decode cX8_clearTold 22 = .ok (.iload_n 1, 1) := by decide +kernel
theorem dX8_clearTold_23 : decode cX8_clearTold 23 = .ok (.iload_n 1, 1) := by decide +kernel
theorem dX8_clearTold_24 : decode cX8_clearTold 24 = .ok (.iconst 4, 1) := by decide +kernel
theorem dX8_clearTold_25 : decode cX8_clearTold 25 = .ok (.if_icmp .ne 7, 3) := by decide +kernel
theorem dX8_clearTold_28 : decode cX8_clearTold 28 = .ok (.iconst (-1), 1) := by decide +kernel
theorem dX8_clearTold_29 : decode cX8_clearTold 29 = .ok (.goto 4, 3) := by decide +kernel
theorem dX8_clearTold_32 : decode cX8_clearTold 32 = .ok (.iconst 0, 1) := by decide +kernel
theorem dX8_clearTold_33 : decode cX8_clearTold 33 = .ok (.iastore, 1) := by decide +kernel
theorem dX8_clearTold_34 : decode cX8_clearTold 34 = .ok (.iinc 1 1, 3) := by decide +kernel
theorem dX8_clearTold_37 : decode cX8_clearTold 37 = .ok (.goto (-25), 3) := by decide +kernel
theorem dX8_clearTold_40 : decode cX8_clearTold 40 = .ok (.return_, 1) := by decide +kernel
theorem dX8_tell_0 : decode cX8_tell 0 = .ok (.aload_n 0, 1) := by decide +kernel
theorem dX8_tell_1 : decode cX8_tell 1 = .ok (.aload_n 0, 1) := by decide +kernel
theorem dX8_tell_2 : decode cX8_tell 2 = .ok (.getfield 186, 3) := by decide +kernel
theorem dX8_tell_5 : decode cX8_tell 5 = .ok (.putfield 298, 3) := by decide +kernel
theorem dX8_tell_8 : decode cX8_tell 8 = .ok (.aload_n 0, 1) := by decide +kernel
theorem dX8_tell_9 : decode cX8_tell 9 = .ok (.aload_n 0, 1) := by decide +kernel
theorem dX8_tell_10 : decode cX8_tell 10 = .ok (.getfield 170, 3) := by decide +kernel
theorem dX8_tell_13 : decode cX8_tell 13 = .ok (.putfield 301, 3) := by decide +kernel
theorem dX8_tell_16 : decode cX8_tell 16 = .ok (.iconst 0, 1) := by decide +kernel
theorem dX8_tell_17 : decode cX8_tell 17 = .ok (.istore_n 1, 1) := by decide +kernel
theorem dX8_tell_18 : decode cX8_tell 18 = .ok (.iload_n 1, 1) := by decide +kernel
theorem dX8_tell_19 : decode cX8_tell 19 = .ok (.aload_n 0, 1) := by decide +kernel
theorem dX8_tell_20 : decode cX8_tell 20 = .ok (.getfield 186, 3) := by decide +kernel
theorem dX8_tell_23 : decode cX8_tell 23 = .ok (.if_icmp .ge 33, 3) := by decide +kernel
theorem dX8_tell_26 : decode cX8_tell 26 = .ok (.aload_n 0, 1) := by decide +kernel
theorem dX8_tell_27 : decode cX8_tell 27 = .ok (.getfield 69, 3) := by decide +kernel
theorem dX8_tell_30 : decode cX8_tell 30 = .ok (.iload_n 1, 1) := by decide +kernel
theorem dX8_tell_31 : decode cX8_tell 31 = .ok (.aload_n 0, 1) := by decide +kernel
theorem dX8_tell_32 : decode cX8_tell 32 = .ok (.getfield 36, 3) := by decide +kernel
theorem dX8_tell_35 : decode cX8_tell 35 = .ok (.iload_n 1, 1) := by decide +kernel
theorem dX8_tell_36 : decode cX8_tell 36 = .ok (.iaload, 1) := by decide +kernel
theorem dX8_tell_37 : decode cX8_tell 37 = .ok (.iastore, 1) := by decide +kernel
theorem dX8_tell_38 : decode cX8_tell 38 = .ok (.aload_n 0, 1) := by decide +kernel
theorem dX8_tell_39 : decode cX8_tell 39 = .ok (.getfield 72, 3) := by decide +kernel
theorem dX8_tell_42 : decode cX8_tell 42 = .ok (.iload_n 1, 1) := by decide +kernel
theorem dX8_tell_43 : decode cX8_tell 43 = .ok (.aload_n 0, 1) := by decide +kernel
theorem dX8_tell_44 : decode cX8_tell 44 = .ok (.getfield 39, 3) := by decide +kernel
theorem dX8_tell_47 : decode cX8_tell 47 = .ok (.iload_n 1, 1) := by decide +kernel
theorem dX8_tell_48 : decode cX8_tell 48 = .ok (.iaload, 1) := by decide +kernel
theorem dX8_tell_49 : decode cX8_tell 49 = .ok (.iastore, 1) := by decide +kernel
theorem dX8_tell_50 : decode cX8_tell 50 = .ok (.iinc 1 1, 3) := by decide +kernel
theorem dX8_tell_53 : decode cX8_tell 53 = .ok (.goto (-35), 3) := by decide +kernel
theorem dX8_tell_56 : decode cX8_tell 56 = .ok (.iconst 0, 1) := by decide +kernel
theorem dX8_tell_57 : decode cX8_tell 57 = .ok (.istore_n 1, 1) := by decide +kernel
theorem dX8_tell_58 : decode cX8_tell 58 = .ok (.iload_n 1, 1) := by decide +kernel
theorem dX8_tell_59 : decode cX8_tell 59 = .ok (.aload_n 0, 1) := by decide +kernel
theorem dX8_tell_60 : decode cX8_tell 60 = .ok (.getfield 170, 3) := by decide +kernel
theorem dX8_tell_63 : decode cX8_tell 63 = .ok (.if_icmp .ge 45, 3) := by decide +kernel
theorem dX8_tell_66 : decode cX8_tell 66 = .ok (.aload_n 0, 1) := by decide +kernel
theorem dX8_tell_67 : decode cX8_tell 67 = .ok (.getfield 75, 3) := by decide +kernel
theorem dX8_tell_70 : decode cX8_tell 70 = .ok (.iload_n 1, 1) := by decide +kernel
theorem dX8_tell_71 : decode cX8_tell 71 = .ok (.aload_n 0, 1) := by decide +kernel
theorem dX8_tell_72 : decode cX8_tell 72 = .ok (.getfield 42, 3) := by decide +kernel
theorem dX8_tell_75 : decode cX8_tell 75 = .ok (.iload_n 1, 1) := by decide +kernel
theorem dX8_tell_76 : decode cX8_tell 76 = .ok (.iaload, 1) := by decide +kernel
theorem dX8_tell_77 : decode cX8_tell 77 = .ok (.iastore, 1) := by decide +kernel
theorem dX8_tell_78 : decode cX8_tell 78 = .ok (.aload_n 0, 1) := by decide +kernel
theorem dX8_tell_79 : decode cX8_tell 79 = .ok (.getfield 78, 3) := by decide +kernel
theorem dX8_tell_82 : decode cX8_tell 82 = .ok (.iload_n 1, 1) := by decide +kernel
theorem dX8_tell_83 : decode cX8_tell 83 = .ok (.aload_n 0, 1) := by decide +kernel
theorem dX8_tell_84 : decode cX8_tell 84 = .ok (.getfield 45, 3) := by decide +kernel
theorem dX8_tell_87 : decode cX8_tell 87 = .ok (.iload_n 1, 1) := by decide +kernel
theorem dX8_tell_88 : decode cX8_tell 88 = .ok (.iaload, 1) := by decide +kernel
theorem dX8_tell_89 : decode cX8_tell 89 = .ok (.iastore, 1) := by decide +kernel
theorem dX8_tell_90 : decode cX8_tell 90 = .ok (.aload_n 0, 1) := by decide +kernel
theorem dX8_tell_91 : decode cX8_tell 91 = .ok (.getfield 81, 3) := by decide +kernel
theorem dX8_tell_94 : decode cX8_tell 94 = .ok (.iload_n 1, 1) := by decide +kernel
theorem dX8_tell_95 : decode cX8_tell 95 = .ok (.aload_n 0, 1) := by decide +kernel
theorem dX8_tell_96 : decode cX8_tell 96 = .ok (.getfield 48, 3) := by decide +kernel
theorem dX8_tell_99 : decode cX8_tell 99 = .ok (.iload_n 1, 1) := by decide +kernel
theorem dX8_tell_100 : decode cX8_tell 100 = .ok (.iaload, 1) := by decide +kernel
theorem dX8_tell_101 : decode cX8_tell 101 = .ok (.iastore, 1) := by decide +kernel
theorem dX8_tell_102 : decode cX8_tell 102 = .ok (.iinc 1 1, 3) := by decide +kernel
theorem dX8_tell_105 : decode cX8_tell 105 = .ok (.goto (-47), 3) := by decide +kernel
theorem dX8_tell_108 : decode cX8_tell 108 = .ok (.aload_n 0, 1) := by decide +kernel
theorem dX8_tell_109 : decode cX8_tell 109 = .ok (.getfield 66, 3) := by decide +kernel
theorem dX8_tell_112 : decode cX8_tell 112 = .ok (.iconst 0, 1) := by decide +kernel
theorem dX8_tell_113 : decode cX8_tell 113 = .ok (.aload_n 0, 1) := by decide +kernel
theorem dX8_tell_114 : decode cX8_tell 114 = .ok (.getfield 186, 3) := by decide +kernel
theorem dX8_tell_117 : decode cX8_tell 117 = .ok (.iastore, 1) := by decide +kernel
theorem dX8_tell_118 : decode cX8_tell 118 = .ok (.aload_n 0, 1) := by decide +kernel
theorem dX8_tell_119 : decode cX8_tell 119 = .ok (.getfield 66, 3) := by decide +kernel
theorem dX8_tell_122 : decode cX8_tell 122 = .ok (.iconst 1, 1) := by decide +kernel
theorem dX8_tell_123 : decode cX8_tell 123 = .ok (.aload_n 0, 1) := by decide +kernel
theorem dX8_tell_124 : decode cX8_tell 124 = .ok (.getfield 252, 3) := by decide +kernel
theorem dX8_tell_127 : decode cX8_tell 127 = .ok (.iastore, 1) := by decide +kernel
theorem dX8_tell_128 : decode cX8_tell 128 = .ok (.aload_n 0, 1) := by decide +kernel
theorem dX8_tell_129 : decode cX8_tell 129 = .ok (.getfield 66, 3) := by decide +kernel
theorem dX8_tell_132 : decode cX8_tell 132 = .ok (.iconst 2, 1) := by decide +kernel
theorem dX8_tell_133 : decode cX8_tell 133 = .ok (.aload_n 0, 1) := by decide +kernel
theorem dX8_tell_134 : decode cX8_tell 134 = .ok (.getfield 230, 3) := by decide +kernel
theorem dX8_tell_137 : decode cX8_tell 137 = .ok (.iastore, 1) := by decide +kernel
theorem dX8_tell_138 : decode cX8_tell 138 = .ok (.aload_n 0, 1) := by decide +kernel
theorem dX8_tell_139 : decode cX8_tell 139 = .ok (.getfield 66, 3) := by decide +kernel
theorem dX8_tell_142 : decode cX8_tell 142 = .ok (.iconst 3, 1) := by decide +kernel
theorem dX8_tell_143 : decode cX8_tell 143 = .ok (.aload_n 0, 1) := by decide +kernel
theorem dX8_tell_144 : decode cX8_tell 144 = .ok (.getfield 205, 3) := by decide +kernel
theorem dX8_tell_147 : decode cX8_tell 147 = .ok (.iastore, 1) := by decide +kernel
theorem dX8_tell_148 : decode cX8_tell 148 = .ok (.aload_n 0, 1) := by decide +kernel
theorem dX8_tell_149 : decode cX8_tell 149 = .ok (.getfield 66, 3) := by decide +kernel
theorem dX8_tell_152 : decode cX8_tell 152 = .ok (.iconst 4, 1) := by decide +kernel
theorem dX8_tell_153 : decode cX8_tell 153 = .ok (.aload_n 0, 1) := by decide +kernel
theorem dX8_tell_154 : decode cX8_tell 154 = .ok (.getfield 258, 3) := by decide +kernel
theorem dX8_tell_157 : decode cX8_tell 157 = .ok (.iastore, 1) := by decide +kernel
theorem dX8_tell_158 : decode cX8_tell 158 = .ok (.aload_n 0, 1) := by decide +kernel
theorem dX8_tell_159 : decode cX8_tell 159 = .ok (.getfield 66, 3) := by decide +kernel
theorem dX8_tell_162 : decode cX8_tell 162 = .ok (.iconst 5, 1) := by decide +kernel
theorem dX8_tell_163 : decode cX8_tell 163 = .ok (.aload_n 0, 1) := by decide +kernel
theorem dX8_tell_164 : decode cX8_tell 164 = .ok (.getfield 264, 3) := by decide +kernel
theorem dX8_tell_167 : decode cX8_tell 167 = .ok (.iastore, 1) := by decide +kernel
theorem dX8_tell_168 : decode cX8_tell 168 = .ok (.aload_n 0, 1) := by decide +kernel
theorem dX8_tell_169 : decode cX8_tell 169 = .ok (.getfield 66, 3) := by decide +kernel
theorem dX8_tell_172 : decode cX8_tell 172 = .ok (.bipush 6, 2) := by decide +kernel
theorem dX8_tell_174 : decode cX8_tell 174 = .ok (.aload_n 0, 1) := by decide +kernel
theorem dX8_tell_175 : decode cX8_tell 175 = .ok (.getfield 270, 3) := by decide +kernel
theorem dX8_tell_178 : decode cX8_tell 178 = .ok (.iastore, 1) := by decide +kernel
theorem dX8_tell_179 : decode cX8_tell 179 = .ok (.aload_n 0, 1) := by decide +kernel
theorem dX8_tell_180 : decode cX8_tell 180 = .ok (.getfield 66, 3) := by decide +kernel
theorem dX8_tell_183 : decode cX8_tell 183 = .ok (.bipush 7, 2) := by decide +kernel
theorem dX8_tell_185 : decode cX8_tell 185 = .ok (.aload_n 0, 1) := by decide +kernel
theorem dX8_tell_186 : decode cX8_tell 186 = .ok (.getfield 243, 3) := by decide +kernel
theorem dX8_tell_189 : decode cX8_tell 189 = .ok (.iastore, 1) := by decide +kernel
theorem dX8_tell_190 : decode cX8_tell 190 = .ok (.aload_n 0, 1) := by decide +kernel
theorem dX8_tell_191 : decode cX8_tell 191 = .ok (.getfield 66, 3) := by decide +kernel
theorem dX8_tell_194 : decode cX8_tell 194 = .ok (.bipush 8, 2) := by decide +kernel
theorem dX8_tell_196 : decode cX8_tell 196 = .ok (.aload_n 0, 1) := by decide +kernel
theorem dX8_tell_197 : decode cX8_tell 197 = .ok (.getfield 261, 3) := by decide +kernel
theorem dX8_tell_200 : decode cX8_tell 200 = .ok (.iastore, 1) := by decide +kernel
theorem dX8_tell_201 : decode cX8_tell 201 = .ok (.aload_n 0, 1) := by decide +kernel
theorem dX8_tell_202 : decode cX8_tell 202 = .ok (.getfield 66, 3) := by decide +kernel
theorem dX8_tell_205 : decode cX8_tell 205 = .ok (.bipush 9, 2) := by decide +kernel
theorem dX8_tell_207 : decode cX8_tell 207 = .ok (.aload_n 0, 1) := by decide +kernel
theorem dX8_tell_208 : decode cX8_tell 208 = .ok (.getfield 170, 3) := by decide +kernel
theorem dX8_tell_211 : decode cX8_tell 211 = .ok (.iastore, 1) := by decide +kernel
theorem dX8_tell_212 : decode cX8_tell 212 = .ok (.return_, 1) := by decide +kernel
theorem dX8_run_0 : decode cX8_run 0 = .ok (.iload_n 1, 1) := by decide +kernel
theorem dX8_run_1 : decode cX8_run 1 = .ok (.iconst 0, 1) := by decide +kernel
theorem dX8_run_2 : decode cX8_run 2 = .ok (.sipush 250, 3) := by decide +kernel
theorem dX8_run_5 : decode cX8_run 5 = .ok (.invokestatic 99, 3) := by decide +kernel
theorem dX8_run_8 : decode cX8_run 8 = .ok (.ifCond .ne 6, 3) := by decide +kernel
theorem dX8_run_11 : decode cX8_run 11 = .ok (.bipush (-102), 2) := by decide +kernel
theorem dX8_run_13 : decode cX8_run 13 = .ok (.ireturn, 1) := by decide +kernel
theorem dX8_run_14 : decode cX8_run 14 = .ok (.aload_n 0, 1) := by decide +kernel
theorem dX8_run_15 : decode cX8_run 15 = .ok (.getfield 143, 3) := by decide +kernel
theorem dX8_run_18 : decode cX8_run 18 = .ok (.ifCond .ne 6, 3) := by decide +kernel
theorem dX8_run_21 : decode cX8_run 21 = .ok (.bipush (-103), 2) := by decide +kernel
theorem dX8_run_23 : decode cX8_run 23 = .ok (.ireturn, 1) := by decide +kernel
theorem dX8_run_24 : decode cX8_run 24 = .ok (.aload_n 0, 1) := by decide +kernel
theorem dX8_run_25 : decode cX8_run 25 = .ok (.iload_n 1, 1) := by decide +kernel
theorem dX8_run_26 : decode cX8_run 26 = .ok (.invokevirtual 304, 3) := by decide +kernel
theorem dX8_run_29 : decode cX8_run 29 = .ok (.aload_n 0, 1) := by decide +kernel
theorem dX8_run_30 : decode cX8_run 30 = .ok (.invokevirtual 307, 3) := by decide +kernel
theorem dX8_run_33 : decode cX8_run 33 = .ok (.aload_n 0, 1) := by decide +kernel
theorem dX8_run_34 : decode cX8_run 34 = .ok (.dup, 1) := by decide +kernel
theorem dX8_run_35 : decode cX8_run 35 = .ok (.getfield 140, 3) := by decide +kernel
theorem dX8_run_38 : decode cX8_run 38 = .ok (.iconst 1, 1) := by decide +kernel
theorem dX8_run_39 : decode cX8_run 39 = .ok (.iadd, 1) := by decide +kernel
theorem dX8_run_40 : decode cX8_run 40 = .ok (.putfield 140, 3) := by decide +kernel
theorem dX8_run_43 : decode cX8_run 43 = .ok (.aload_n 0, 1) := by decide +kernel
theorem dX8_run_44 : decode cX8_run 44 = .ok (.getfield 183, 3) := by decide +kernel
theorem dX8_run_47 : decode cX8_run 47 = .ok (.ifCond .eq 8, 3) := by decide +kernel
theorem dX8_run_50 : decode cX8_run 50 = .ok (.bipush (-2), 2) := by decide +kernel
theorem dX8_run_52 : decode cX8_run 52 = .ok (.goto 7, 3) := by decide +kernel
theorem dX8_run_55 : decode cX8_run 55 = .ok (.aload_n 0, 1) := by decide +kernel
theorem dX8_run_56 : decode cX8_run 56 = .ok (.getfield 186, 3) := by decide +kernel
theorem dX8_run_59 : decode cX8_run 59 = .ok (.ireturn, 1) := by decide +kernel
theorem dX8_outNow_0 : decode cX8_outNow 0 = .ok (.iload_n 2, 1) := by decide +kernel
theorem dX8_outNow_1 : decode cX8_outNow 1 = .ok (.ifCond .ne 12, 3) := by decide +kernel
theorem dX8_outNow_4 : decode cX8_outNow 4 = .ok (.aload_n 0, 1) := by decide +kernel
theorem dX8_outNow_5 : decode cX8_outNow 5 = .ok (.getfield 69, 3) := by decide +kernel
theorem dX8_outNow_8 : decode cX8_outNow 8 = .ok (.iload_n 1, 1) := by decide +kernel
theorem dX8_outNow_9 : decode cX8_outNow 9 = .ok (.iaload, 1) := by decide +kernel
theorem dX8_outNow_10 : decode cX8_outNow 10 = .ok (.goto 9, 3) := by decide +kernel
theorem dX8_outNow_13 : decode cX8_outNow 13 = .ok (.aload_n 0, 1) := by decide +kernel
theorem dX8_outNow_14 : decode cX8_outNow 14 = .ok (.getfield 72, 3) := by decide +kernel
theorem dX8_outNow_17 : decode cX8_outNow 17 = .ok (.iload_n 1, 1) := by decide +kernel
theorem dX8_outNow_18 : decode cX8_outNow 18 = .ok (.iaload, 1) := by decide +kernel
theorem dX8_outNow_19 : decode cX8_outNow 19 = .ok (.ireturn, 1) := by decide +kernel
theorem dX8_out_0 : decode cX8_out 0 = .ok (.iload_n 1, 1) := by decide +kernel
theorem dX8_out_1 : decode cX8_out 1 = .ok (.iconst 0, 1) := by decide +kernel
theorem dX8_out_2 : decode cX8_out 2 = .ok (.aload_n 0, 1) := by decide +kernel
theorem dX8_out_3 : decode cX8_out 3 = .ok (.getfield 298, 3) := by decide +kernel
theorem dX8_out_6 : decode cX8_out 6 = .ok (.iconst 1, 1) := by decide +kernel
theorem dX8_out_7 : decode cX8_out 7 = .ok (.isub, 1) := by decide +kernel
theorem dX8_out_8 : decode cX8_out 8 = .ok (.invokestatic 99, 3) := by decide +kernel
theorem dX8_out_11 : decode cX8_out 11 = .ok (.ifCond .ne 8, 3) := by decide +kernel
theorem dX8_out_14 : decode cX8_out 14 = .ok (.bipush (-101), 2) := by decide +kernel
theorem dX8_out_16 : decode cX8_out 16 = .ok (.goto 23, 3) := by decide +kernel
theorem dX8_out_19 : decode cX8_out 19 = .ok (.iload_n 2, 1) := by decide +kernel
theorem dX8_out_20 : decode cX8_out 20 = .ok (.iconst 0, 1) := by decide +kernel
theorem dX8_out_21 : decode cX8_out 21 = .ok (.iconst 1, 1) := by decide +kernel
theorem dX8_out_22 : decode cX8_out 22 = .ok (.invokestatic 99, 3) := by decide +kernel
theorem dX8_out_25 : decode cX8_out 25 = .ok (.ifCond .eq 12, 3) := by decide +kernel
theorem dX8_out_28 : decode cX8_out 28 = .ok (.aload_n 0, 1) := by decide +kernel
theorem dX8_out_29 : decode cX8_out 29 = .ok (.iload_n 1, 1) := by decide +kernel
theorem dX8_out_30 : decode cX8_out 30 = .ok (.iload_n 2, 1) := by decide +kernel
theorem dX8_out_31 : decode cX8_out 31 = .ok (.invokevirtual 310, 3) := by decide +kernel
theorem dX8_out_34 : decode cX8_out 34 = .ok (.goto 5, 3) := by decide +kernel
theorem dX8_out_37 : decode cX8_out 37 = .ok (.bipush (-102), 2) := by decide +kernel
theorem dX8_out_39 : decode cX8_out 39 = .ok (.ireturn, 1) := by decide +kernel
theorem dX8_logNow_0 : decode cX8_logNow 0 = .ok (.iload_n 2, 1) := by decide +kernel
theorem dX8_logNow_1 : decode cX8_logNow 1 = .ok (.ifCond .ne 12, 3) := by decide +kernel
theorem dX8_logNow_4 : decode cX8_logNow 4 = .ok (.aload_n 0, 1) := by decide +kernel
theorem dX8_logNow_5 : decode cX8_logNow 5 = .ok (.getfield 75, 3) := by decide +kernel
theorem dX8_logNow_8 : decode cX8_logNow 8 = .ok (.iload_n 1, 1) := by decide +kernel
theorem dX8_logNow_9 : decode cX8_logNow 9 = .ok (.iaload, 1) := by decide +kernel
theorem dX8_logNow_10 : decode cX8_logNow 10 = .ok (.goto 23, 3) := by decide +kernel
theorem dX8_logNow_13 : decode cX8_logNow 13 = .ok (.iload_n 2, 1) := by decide +kernel
theorem dX8_logNow_14 : decode cX8_logNow 14 = .ok (.iconst 1, 1) := by decide +kernel
theorem dX8_logNow_15 : decode cX8_logNow 15 = .ok (.if_icmp .ne 12, 3) := by decide +kernel
theorem dX8_logNow_18 : decode cX8_logNow 18 = .ok (.aload_n 0, 1) := by decide +kernel
theorem dX8_logNow_19 : decode cX8_logNow 19 = .ok (.getfield 78, 3) := by decide +kernel
theorem dX8_logNow_22 : decode cX8_logNow 22 = .ok (.iload_n 1, 1) := by decide +kernel
theorem dX8_logNow_23 : decode cX8_logNow 23 = .ok (.iaload, 1) := by decide +kernel
theorem dX8_logNow_24 : decode cX8_logNow 24 = .ok (.goto 9, 3) := by decide +kernel
theorem dX8_logNow_27 : decode cX8_logNow 27 = .ok (.aload_n 0, 1) := by decide +kernel
theorem dX8_logNow_28 : decode cX8_logNow 28 = .ok (.getfield 81, 3) := by decide +kernel
theorem dX8_logNow_31 : decode cX8_logNow 31 = .ok (.iload_n 1, 1) := by decide +kernel
theorem dX8_logNow_32 : decode cX8_logNow 32 = .ok (.iaload, 1) := by decide +kernel
theorem dX8_logNow_33 : decode cX8_logNow 33 = .ok (.ireturn, 1) := by decide +kernel
theorem dX8_log_0 : decode cX8_log 0 = .ok (.iload_n 1, 1) := by decide +kernel
theorem dX8_log_1 : decode cX8_log 1 = .ok (.iconst 0, 1) := by decide +kernel
theorem dX8_log_2 : decode cX8_log 2 = .ok (.aload_n 0, 1) := by decide +kernel
theorem dX8_log_3 : decode cX8_log 3 = .ok (.getfield 301, 3) := by decide +kernel
theorem dX8_log_6 : decode cX8_log 6 = .ok (.iconst 1, 1) := by decide +kernel
theorem dX8_log_7 : decode cX8_log 7 = .ok (.isub, 1) := by decide +kernel
theorem dX8_log_8 : decode cX8_log 8 = .ok (.invokestatic 99, 3) := by decide +kernel
theorem dX8_log_11 : decode cX8_log 11 = .ok (.ifCond .ne 8, 3) := by decide +kernel
theorem dX8_log_14 : decode cX8_log 14 = .ok (.bipush (-101), 2) := by decide +kernel
theorem dX8_log_16 : decode cX8_log 16 = .ok (.goto 23, 3) := by decide +kernel
theorem dX8_log_19 : decode cX8_log 19 = .ok (.iload_n 2, 1) := by decide +kernel
theorem dX8_log_20 : decode cX8_log 20 = .ok (.iconst 0, 1) := by decide +kernel
theorem dX8_log_21 : decode cX8_log 21 = .ok (.iconst 2, 1) := by decide +kernel
theorem dX8_log_22 : decode cX8_log 22 = .ok (.invokestatic 99, 3) := by decide +kernel
theorem dX8_log_25 : decode cX8_log 25 = .ok (.ifCond .eq 12, 3) := by decide +kernel
theorem dX8_log_28 : decode cX8_log 28 = .ok (.aload_n 0, 1) := by decide +kernel
theorem dX8_log_29 : decode cX8_log 29 = .ok (.iload_n 1, 1) := by decide +kernel
theorem dX8_log_30 : decode cX8_log 30 = .ok (.iload_n 2, 1) := by decide +kernel
theorem dX8_log_31 : decode cX8_log 31 = .ok (.invokevirtual 313, 3) := by decide +kernel
theorem dX8_log_34 : decode cX8_log 34 = .ok (.goto 5, 3) := by decide +kernel
theorem dX8_log_37 : decode cX8_log 37 = .ok (.bipush (-102), 2) := by decide +kernel
theorem dX8_log_39 : decode cX8_log 39 = .ok (.ireturn, 1) := by decide +kernel
theorem dX8_ledger_0 : decode cX8_ledger 0 = .ok (.iload_n 1, 1) := by decide +kernel
theorem dX8_ledger_1 : decode cX8_ledger 1 = .ok (.iconst 0, 1) := by decide +kernel
theorem dX8_ledger_2 : decode cX8_ledger 2 = .ok (.bipush 9, 2) := by decide +kernel
theorem dX8_ledger_4 : decode cX8_ledger 4 = .ok (.invokestatic 99, 3) := by decide +kernel
theorem dX8_ledger_7 : decode cX8_ledger 7 = .ok (.ifCond .eq 12, 3) := by decide +kernel
theorem dX8_ledger_10 : decode cX8_ledger 10 = .ok (.aload_n 0, 1) := by decide +kernel
theorem dX8_ledger_11 : decode cX8_ledger 11 = .ok (.getfield 66, 3) := by decide +kernel
theorem dX8_ledger_14 : decode cX8_ledger 14 = .ok (.iload_n 1, 1) := by decide +kernel
theorem dX8_ledger_15 : decode cX8_ledger 15 = .ok (.iaload, 1) := by decide +kernel
theorem dX8_ledger_16 : decode cX8_ledger 16 = .ok (.goto 5, 3) := by decide +kernel
theorem dX8_ledger_19 : decode cX8_ledger 19 = .ok (.bipush (-102), 2) := by decide +kernel
theorem dX8_ledger_21 : decode cX8_ledger 21 = .ok (.ireturn, 1) := by decide +kernel
theorem dX8_spareNow_0 : decode cX8_spareNow 0 = .ok (.aload_n 0, 1) := by decide +kernel
theorem dX8_spareNow_1 : decode cX8_spareNow 1 = .ok (.getfield 134, 3) := by decide +kernel
theorem dX8_spareNow_4 : decode cX8_spareNow 4 = .ok (.istore_n 1, 1) := by decide +kernel
theorem dX8_spareNow_5 : decode cX8_spareNow 5 = .ok (.iconst (-1), 1) := by decide +kernel
theorem dX8_spareNow_6 : decode cX8_spareNow 6 = .ok (.istore_n 2, 1) := by decide +kernel
theorem dX8_spareNow_7 : decode cX8_spareNow 7 = .ok (.bipush 9, 2) := by decide +kernel
theorem dX8_spareNow_9 : decode cX8_spareNow 9 = .ok (.istore_n 3, 1) := by decide +kernel
theorem dX8_spareNow_10 : decode cX8_spareNow 10 = .ok (.iload_n 3, 1) := by decide +kernel
theorem dX8_spareNow_11 : decode cX8_spareNow 11 = .ok (.ifCond .le 34, 3) := by decide +kernel
theorem dX8_spareNow_14 : decode cX8_spareNow 14 = .ok (.aload_n 0, 1) := by decide +kernel
theorem dX8_spareNow_15 : decode cX8_spareNow 15 = .ok (.iload_n 3, 1) := by decide +kernel
theorem dX8_spareNow_16 : decode cX8_spareNow 16 = .ok (.putfield 134, 3) := by decide +kernel
theorem dX8_spareNow_19 : decode cX8_spareNow 19 = .ok (.aload_n 0, 1) := by decide +kernel
theorem dX8_spareNow_20 : decode cX8_spareNow 20 = .ok (.ldc_w 316, 3) := by decide +kernel
theorem dX8_spareNow_23 : decode cX8_spareNow 23 = .ok (.invokevirtual 304, 3) := by decide +kernel
theorem dX8_spareNow_26 : decode cX8_spareNow 26 = .ok (.aload_n 0, 1) := by decide +kernel
theorem dX8_spareNow_27 : decode cX8_spareNow 27 = .ok (.getfield 252, 3) := by decide +kernel
theorem dX8_spareNow_30 : decode cX8_spareNow 30 = .ok (.ifCond .ne 7, 3) := by decide +kernel
theorem dX8_spareNow_33 : decode cX8_spareNow 33 = .ok (.iload_n 3, 1) := by decide +kernel
theorem dX8_spareNow_34 : decode cX8_spareNow 34 = .ok (.goto 4, 3) := by decide +kernel
theorem dX8_spareNow_37 : decode cX8_spareNow 37 = .ok (.iload_n 2, 1) := by decide +kernel
theorem dX8_spareNow_38 : decode cX8_spareNow 38 = .ok (.istore_n 2, 1) := by decide +kernel
theorem dX8_spareNow_39 : decode cX8_spareNow 39 = .ok (.iinc 3 (-1), 3) := by decide +kernel
theorem dX8_spareNow_42 : decode cX8_spareNow 42 = .ok (.goto (-32), 3) := by decide +kernel
theorem dX8_spareNow_45 : decode cX8_spareNow 45 = .ok (.aload_n 0, 1) := by decide +kernel
theorem dX8_spareNow_46 : decode cX8_spareNow 46 = .ok (.iload_n 1, 1) := by decide +kernel
theorem dX8_spareNow_47 : decode cX8_spareNow 47 = .ok (.putfield 134, 3) := by decide +kernel
theorem dX8_spareNow_50 : decode cX8_spareNow 50 = .ok (.iload_n 2, 1) := by decide +kernel
theorem dX8_spareNow_51 : decode cX8_spareNow 51 = .ok (.ireturn, 1) := by decide +kernel
theorem dX8_spare_0 : decode cX8_spare 0 = .ok (.aload_n 0, 1) := by decide +kernel
theorem dX8_spare_1 : decode cX8_spare 1 = .ok (.getfield 143, 3) := by decide +kernel
theorem dX8_spare_4 : decode cX8_spare 4 = .ok (.ifCond .ne 8, 3) := by decide +kernel
theorem dX8_spare_7 : decode cX8_spare 7 = .ok (.bipush (-103), 2) := by decide +kernel
theorem dX8_spare_9 : decode cX8_spare 9 = .ok (.goto 7, 3) := by decide +kernel
theorem dX8_spare_12 : decode cX8_spare 12 = .ok (.aload_n 0, 1) := by decide +kernel
theorem dX8_spare_13 : decode cX8_spare 13 = .ok (.invokevirtual 317, 3) := by decide +kernel
theorem dX8_spare_16 : decode cX8_spare 16 = .ok (.ireturn, 1) := by decide +kernel
theorem dX8_could_0 : decode cX8_could 0 = .ok (.iload_n 1, 1) := by decide +kernel
theorem dX8_could_1 : decode cX8_could 1 = .ok (.tableswitch 79 0 2 #[27, 47, 68], 27) := by decide +kernel
theorem dX8_could_28 : decode cX8_could 28 = .ok (.iload_n 0, 1) := by decide +kernel
theorem dX8_could_29 : decode cX8_could 29 = .ok (.ifCond .eq 13, 3) := by decide +kernel
theorem dX8_could_32 : decode cX8_could 32 = .ok (.iload_n 0, 1) := by decide +kernel
theorem dX8_could_33 : decode cX8_could 33 = .ok (.iconst 1, 1) := by decide +kernel
theorem dX8_could_34 : decode cX8_could 34 = .ok (.if_icmp .eq 8, 3) := by decide +kernel
theorem dX8_could_37 : decode cX8_could 37 = .ok (.iload_n 0, 1) := by decide +kernel
theorem dX8_could_38 : decode cX8_could 38 = .ok (.iconst 4, 1) := by decide +kernel
theorem dX8_could_39 : decode cX8_could 39 = .ok (.if_icmp .ne 7, 3) := by decide +kernel
theorem dX8_could_42 : decode cX8_could 42 = .ok (.iconst 1, 1) := by decide +kernel
theorem dX8_could_43 : decode cX8_could 43 = .ok (.goto 4, 3) := by decide +kernel
theorem dX8_could_46 : decode cX8_could 46 = .ok (.iconst 0, 1) := by decide +kernel
theorem dX8_could_47 : decode cX8_could 47 = .ok (.ireturn, 1) := by decide +kernel
theorem dX8_could_48 : decode cX8_could 48 = .ok (.iload_n 0, 1) := by decide +kernel
theorem dX8_could_49 : decode cX8_could 49 = .ok (.iconst 1, 1) := by decide +kernel
theorem dX8_could_50 : decode cX8_could 50 = .ok (.if_icmp .eq 13, 3) := by decide +kernel
theorem dX8_could_53 : decode cX8_could 53 = .ok (.iload_n 0, 1) := by decide +kernel
theorem dX8_could_54 : decode cX8_could 54 = .ok (.iconst 2, 1) := by decide +kernel
theorem dX8_could_55 : decode cX8_could 55 = .ok (.if_icmp .eq 8, 3) := by decide +kernel
theorem dX8_could_58 : decode cX8_could 58 = .ok (.iload_n 0, 1) := by decide +kernel
theorem dX8_could_59 : decode cX8_could 59 = .ok (.iconst 4, 1) := by decide +kernel
theorem dX8_could_60 : decode cX8_could 60 = .ok (.if_icmp .ne 7, 3) := by decide +kernel
theorem dX8_could_63 : decode cX8_could 63 = .ok (.iconst 1, 1) := by decide +kernel
theorem dX8_could_64 : decode cX8_could 64 = .ok (.goto 4, 3) := by decide +kernel
theorem dX8_could_67 : decode cX8_could 67 = .ok (.iconst 0, 1) := by decide +kernel
theorem dX8_could_68 : decode cX8_could 68 = .ok (.ireturn, 1) := by decide +kernel
theorem dX8_could_69 : decode cX8_could 69 = .ok (.iload_n 0, 1) := by decide +kernel
theorem dX8_could_70 : decode cX8_could 70 = .ok (.iconst 4, 1) := by decide +kernel
theorem dX8_could_71 : decode cX8_could 71 = .ok (.if_icmp .ne 7, 3) := by decide +kernel
theorem dX8_could_74 : decode cX8_could 74 = .ok (.iconst 1, 1) := by decide +kernel
theorem dX8_could_75 : decode cX8_could 75 = .ok (.goto 4, 3) := by decide +kernel
theorem dX8_could_78 : decode cX8_could 78 = .ok (.iconst 0, 1) := by decide +kernel
theorem dX8_could_79 : decode cX8_could 79 = .ok (.ireturn, 1) := by decide +kernel
theorem dX8_could_80 : decode cX8_could 80 = .ok (.iload_n 0, 1) := by decide +kernel
theorem dX8_could_81 : decode cX8_could 81 = .ok (.iconst 3, 1) := by decide +kernel
theorem dX8_could_82 : decode cX8_could 82 = .ok (.if_icmp .ne 7, 3) := by decide +kernel
theorem dX8_could_85 : decode cX8_could 85 = .ok (.iconst 1, 1) := by decide +kernel
theorem dX8_could_86 : decode cX8_could 86 = .ok (.goto 4, 3) := by decide +kernel
theorem dX8_could_89 : decode cX8_could 89 = .ok (.iconst 0, 1) := by decide +kernel
theorem dX8_could_90 : decode cX8_could 90 = .ok (.ireturn, 1) := by decide +kernel
theorem dX8_see_0 : decode cX8_see 0 = .ok (.iload_n 1, 1) := by decide +kernel
theorem dX8_see_1 : decode cX8_see 1 = .ok (.iconst 0, 1) := by decide +kernel
theorem dX8_see_2 : decode cX8_see 2 = .ok (.iconst 3, 1) := by decide +kernel
theorem dX8_see_3 : decode cX8_see 3 = .ok (.invokestatic 99, 3) := by decide +kernel
theorem dX8_see_6 : decode cX8_see 6 = .ok (.ifCond .ne 6, 3) := by decide +kernel
theorem dX8_see_9 : decode cX8_see 9 = .ok (.bipush (-102), 2) := by decide +kernel
theorem dX8_see_11 : decode cX8_see 11 = .ok (.ireturn, 1) := by decide +kernel
theorem dX8_see_12 : decode cX8_see 12 = .ok (.aload_n 0, 1) := by decide +kernel
theorem dX8_see_13 : decode cX8_see 13 = .ok (.getfield 143, 3) := by decide +kernel
theorem dX8_see_16 : decode cX8_see 16 = .ok (.ifCond .ne 6, 3) := by decide +kernel
theorem dX8_see_19 : decode cX8_see 19 = .ok (.bipush (-103), 2) := by decide +kernel
theorem dX8_see_21 : decode cX8_see 21 = .ok (.ireturn, 1) := by decide +kernel
theorem dX8_see_22 : decode cX8_see 22 = .ok (.aload_n 0, 1) := by decide +kernel
theorem dX8_see_23 : decode cX8_see 23 = .ok (.getfield 146, 3) := by decide +kernel
theorem dX8_see_26 : decode cX8_see 26 = .ok (.bipush 6, 2) := by decide +kernel
theorem dX8_see_28 : decode cX8_see 28 = .ok (.if_icmp .ne 6, 3) := by decide +kernel
theorem dX8_see_31 : decode cX8_see 31 = .ok (.bipush (-104), 2) := by decide +kernel
theorem dX8_see_33 : decode cX8_see 33 = .ok (.ireturn, 1) := by decide +kernel
theorem dX8_see_34 : decode cX8_see 34 = .ok (.aload_n 0, 1) := by decide +kernel
theorem dX8_see_35 : decode cX8_see 35 = .ok (.getfield 20, 3) := by decide +kernel
theorem dX8_see_38 : decode cX8_see 38 = .ok (.aload_n 0, 1) := by decide +kernel
theorem dX8_see_39 : decode cX8_see 39 = .ok (.getfield 146, 3) := by decide +kernel
theorem dX8_see_42 : decode cX8_see 42 = .ok (.iload_n 1, 1) := by decide +kernel
theorem dX8_see_43 : decode cX8_see 43 = .ok (.iastore, 1) := by decide +kernel
theorem dX8_see_44 : decode cX8_see 44 = .ok (.aload_n 0, 1) := by decide +kernel
theorem dX8_see_45 : decode cX8_see 45 = .ok (.getfield 23, 3) := by decide +kernel
theorem dX8_see_48 : decode cX8_see 48 = .ok (.aload_n 0, 1) := by decide +kernel
theorem dX8_see_49 : decode cX8_see 49 = .ok (.getfield 146, 3) := by decide +kernel
theorem dX8_see_52 : decode cX8_see 52 = .ok (.iload_n 2, 1) := by decide +kernel
theorem dX8_see_53 : decode cX8_see 53 = .ok (.ifCond .eq 7, 3) := by decide +kernel
theorem dX8_see_56 : decode cX8_see 56 = .ok (.iconst 1, 1) := by decide +kernel
theorem dX8_see_57 : decode cX8_see 57 = .ok (.goto 4, 3) := by decide +kernel
theorem dX8_see_60 : decode cX8_see 60 = .ok (.iconst 0, 1) := by decide +kernel
theorem dX8_see_61 : decode cX8_see 61 = .ok (.iastore, 1) := by decide +kernel
theorem dX8_see_62 : decode cX8_see 62 = .ok (.aload_n 0, 1) := by decide +kernel
theorem dX8_see_63 : decode cX8_see 63 = .ok (.dup, 1) := by decide +kernel
theorem dX8_see_64 : decode cX8_see 64 = .ok (.getfield 146, 3) := by decide +kernel
theorem dX8_see_67 : decode cX8_see 67 = .ok (.iconst 1, 1) := by decide +kernel
theorem dX8_see_68 : decode cX8_see 68 = .ok (.iadd, 1) := by decide +kernel
theorem dX8_see_69 : decode cX8_see 69 = .ok (.putfield 146, 3) := by decide +kernel
theorem dX8_see_72 : decode cX8_see 72 = .ok (.aload_n 0, 1) := by decide +kernel
theorem dX8_see_73 : decode cX8_see 73 = .ok (.getfield 146, 3) := by decide +kernel
theorem dX8_see_76 : decode cX8_see 76 = .ok (.ireturn, 1) := by decide +kernel
theorem dX8_forget_0 : decode cX8_forget 0 = .ok (.aload_n 0, 1) := by decide +kernel
theorem dX8_forget_1 : decode cX8_forget 1 = .ok (.getfield 146, 3) := by decide +kernel
theorem dX8_forget_4 : decode cX8_forget 4 = .ok (.istore_n 1, 1) := by decide +kernel
theorem dX8_forget_5 : decode cX8_forget 5 = .ok (.aload_n 0, 1) := by decide +kernel
theorem dX8_forget_6 : decode cX8_forget 6 = .ok (.iconst 0, 1) := by decide +kernel
theorem dX8_forget_7 : decode cX8_forget 7 = .ok (.putfield 146, 3) := by decide +kernel
theorem dX8_forget_10 : decode cX8_forget 10 = .ok (.iload_n 1, 1) := by decide +kernel
theorem dX8_forget_11 : decode cX8_forget 11 = .ok (.ireturn, 1) := by decide +kernel
theorem dX8_sortsNow_0 : decode cX8_sortsNow 0 = .ok (.iconst 0, 1) := by decide +kernel
theorem dX8_sortsNow_1 : decode cX8_sortsNow 1 = .ok (.istore_n 1, 1) := by decide +kernel
theorem dX8_sortsNow_2 : decode cX8_sortsNow 2 = .ok (.iconst 0, 1) := by decide +kernel
theorem dX8_sortsNow_3 : decode cX8_sortsNow 3 = .ok (.istore_n 2, 1) := by decide +kernel
theorem dX8_sortsNow_4 : decode cX8_sortsNow 4 = .ok (.iload_n 2, 1) := by decide +kernel
theorem dX8_sortsNow_5 : decode cX8_sortsNow 5 = .ok (.iconst 4, 1) := by decide +kernel
theorem dX8_sortsNow_6 : decode cX8_sortsNow 6 = .ok (.if_icmp .gt 83, 3) := by decide +kernel
theorem dX8_sortsNow_9 : decode cX8_sortsNow 9 = .ok (.iconst 1, 1) := by decide +kernel
theorem dX8_sortsNow_10 : decode cX8_sortsNow 10 = .ok (.istore_n 3, 1) := by decide +kernel
theorem dX8_sortsNow_11 : decode cX8_sortsNow 11 = .ok (.iconst 0, 1) := by decide +kernel
theorem dX8_sortsNow_12 : decode cX8_sortsNow 12 = .ok (.istore 4, 2) := by decide +kernel
theorem dX8_sortsNow_14 : decode cX8_sortsNow 14 = .ok (.iload 4, 2) := by decide +kernel
theorem dX8_sortsNow_16 : decode cX8_sortsNow 16 = .ok (.aload_n 0, 1) := by decide +kernel
theorem dX8_sortsNow_17 : decode cX8_sortsNow 17 = .ok (.getfield 146, 3) := by decide +kernel
theorem dX8_sortsNow_20 : decode cX8_sortsNow 20 = .ok (.if_icmp .ge 49, 3) := by decide +kernel
theorem dX8_sortsNow_23 : decode cX8_sortsNow 23 = .ok (.iload_n 3, 1) := by decide +kernel
theorem dX8_sortsNow_24 : decode cX8_sortsNow 24 = .ok (.ifCond .eq 37, 3) := by decide +kernel
theorem dX8_sortsNow_27 : decode cX8_sortsNow 27 = .ok (.iload_n 2, 1) := by decide +kernel
theorem dX8_sortsNow_28 : decode cX8_sortsNow 28 = .ok (.aload_n 0, 1) := by decide +kernel
theorem dX8_sortsNow_29 : decode cX8_sortsNow 29 = .ok (.getfield 20, 3) := by decide +kernel
theorem dX8_sortsNow_32 : decode cX8_sortsNow 32 = .ok (.iload 4, 2) := by decide +kernel
theorem dX8_sortsNow_34 : decode cX8_sortsNow 34 = .ok (.iaload, 1) := by decide +kernel
theorem dX8_sortsNow_35 : decode cX8_sortsNow 35 = .ok (.invokestatic 320, 3) := by decide +kernel
theorem dX8_sortsNow_38 : decode cX8_sortsNow 38 = .ok (.aload_n 0, 1) := by decide +kernel
theorem dX8_sortsNow_39 : decode cX8_sortsNow 39 = .ok (.getfield 23, 3) := by decide +kernel
theorem dX8_sortsNow_42 : decode cX8_sortsNow 42 = .ok (.iload 4, 2) := by decide +kernel
theorem dX8_sortsNow_44 : decode cX8_sortsNow 44 = .ok (.iaload, 1) := by decide +kernel
theorem dX8_sortsNow_45 : decode cX8_sortsNow 45 = .ok (.iconst 1, 1) := by decide +kernel
theorem dX8_sortsNow_46 : decode cX8_sortsNow 46 = .ok (.if_icmp .ne 7, 3) := by decide +kernel
theorem dX8_sortsNow_49 : decode cX8_sortsNow 49 = .ok (.iconst 1, 1) := by decide +kernel
theorem dX8_sortsNow_50 : decode cX8_sortsNow 50 = .ok (.goto 4, 3) := by decide +kernel
theorem dX8_sortsNow_53 : decode cX8_sortsNow 53 = .ok (.iconst 0, 1) := by decide +kernel
theorem dX8_sortsNow_54 : decode cX8_sortsNow 54 = .ok (.if_icmp .ne 7, 3) := by decide +kernel
theorem dX8_sortsNow_57 : decode cX8_sortsNow 57 = .ok (.iconst 1, 1) := by decide +kernel
theorem dX8_sortsNow_58 : decode cX8_sortsNow 58 = .ok (.goto 4, 3) := by decide +kernel
theorem dX8_sortsNow_61 : decode cX8_sortsNow 61 = .ok (.iconst 0, 1) := by decide +kernel
theorem dX8_sortsNow_62 : decode cX8_sortsNow 62 = .ok (.istore_n 3, 1) := by decide +kernel
theorem dX8_sortsNow_63 : decode cX8_sortsNow 63 = .ok (.iinc 4 1, 3) := by decide +kernel
theorem dX8_sortsNow_66 : decode cX8_sortsNow 66 = .ok (.goto (-52), 3) := by decide +kernel
theorem dX8_sortsNow_69 : decode cX8_sortsNow 69 = .ok (.iload_n 1, 1) := by decide +kernel
theorem dX8_sortsNow_70 : decode cX8_sortsNow 70 = .ok (.iload_n 3, 1) := by decide +kernel
theorem dX8_sortsNow_71 : decode cX8_sortsNow 71 = .ok (.ifCond .eq 9, 3) := by decide +kernel
theorem dX8_sortsNow_74 : decode cX8_sortsNow 74 = .ok (.iconst 1, 1) := by decide +kernel
theorem dX8_sortsNow_75 : decode cX8_sortsNow 75 = .ok (.iload_n 2, 1) := by decide +kernel
theorem dX8_sortsNow_76 : decode cX8_sortsNow 76 = .ok (.ishl, 1) := by decide +kernel
theorem dX8_sortsNow_77 : decode cX8_sortsNow 77 = .ok (.goto 4, 3) := by decide +kernel
theorem dX8_sortsNow_80 : decode cX8_sortsNow 80 = .ok (.iconst 0, 1) := by decide +kernel
theorem dX8_sortsNow_81 : decode cX8_sortsNow 81 = .ok (.ior, 1) := by decide +kernel
theorem dX8_sortsNow_82 : decode cX8_sortsNow 82 = .ok (.istore_n 1, 1) := by decide +kernel
theorem dX8_sortsNow_83 : decode cX8_sortsNow 83 = .ok (.iinc 2 1, 3) := by decide +kernel
theorem dX8_sortsNow_86 : decode cX8_sortsNow 86 = .ok (.goto (-82), 3) := by decide +kernel
theorem dX8_sortsNow_89 : decode cX8_sortsNow 89 = .ok (.iload_n 1, 1) := by decide +kernel
theorem dX8_sortsNow_90 : decode cX8_sortsNow 90 = .ok (.ireturn, 1) := by decide +kernel
theorem dX8_askNow_0 : decode cX8_askNow 0 = .ok (.aload_n 0, 1) := by decide +kernel
theorem dX8_askNow_1 : decode cX8_askNow 1 = .ok (.invokevirtual 323, 3) := by decide +kernel
theorem dX8_askNow_4 : decode cX8_askNow 4 = .ok (.istore_n 1, 1) := by decide +kernel
theorem dX8_askNow_5 : decode cX8_askNow 5 = .ok (.iconst (-1), 1) := by decide +kernel
theorem dX8_askNow_6 : decode cX8_askNow 6 = .ok (.istore_n 2, 1) := by decide +kernel
theorem dX8_askNow_7 : decode cX8_askNow 7 = .ok (.ldc_w 316, 3) := by decide +kernel
theorem dX8_askNow_10 : decode cX8_askNow 10 = .ok (.istore_n 3, 1) := by decide +kernel
theorem dX8_askNow_11 : decode cX8_askNow 11 = .ok (.iconst 0, 1) := by decide +kernel
theorem dX8_askNow_12 : decode cX8_askNow 12 = .ok (.istore 4, 2) := by decide +kernel
theorem dX8_askNow_14 : decode cX8_askNow 14 = .ok (.iload 4, 2) := by decide +kernel
theorem dX8_askNow_16 : decode cX8_askNow 16 = .ok (.iconst 4, 1) := by decide +kernel
theorem dX8_askNow_17 : decode cX8_askNow 17 = .ok (.if_icmp .ge 111, 3) := by decide +kernel
theorem dX8_askNow_20 : decode cX8_askNow 20 = .ok (.iload_n 1, 1) := by decide +kernel
theorem dX8_askNow_21 : decode cX8_askNow 21 = .ok (.ifCond .eq 107, 3) := by decide +kernel
theorem dX8_askNow_24 : decode cX8_askNow 24 = .ok (.iconst 0, 1) := by decide +kernel
theorem dX8_askNow_25 : decode cX8_askNow 25 = .ok (.istore 5, 2) := by decide +kernel
theorem dX8_askNow_27 : decode cX8_askNow 27 = .ok (.iconst 0, 1) := by decide +kernel
theorem dX8_askNow_28 : decode cX8_askNow 28 = .ok (.istore 6, 2) := by decide +kernel
theorem dX8_askNow_30 : decode cX8_askNow 30 = .ok (.iload 6, 2) := by decide +kernel
theorem dX8_askNow_32 : decode cX8_askNow 32 = .ok (.iconst 4, 1) := by decide +kernel
theorem dX8_askNow_33 : decode cX8_askNow 33 = .ok (.if_icmp .gt 38, 3) := by decide +kernel
theorem dX8_askNow_36 : decode cX8_askNow 36 = .ok (.iload 5, 2) := by decide +kernel
theorem dX8_askNow_38 : decode cX8_askNow 38 = .ok (.iload_n 1, 1) := by decide +kernel
theorem dX8_askNow_39 : decode cX8_askNow 39 = .ok (.iload 6, 2) := by decide +kernel
theorem dX8_askNow_41 : decode cX8_askNow 41 = .ok (.invokestatic 202, 3) := by decide +kernel
theorem dX8_askNow_44 : decode cX8_askNow 44 = .ok (.ifCond .eq 17, 3) := by decide +kernel
theorem dX8_askNow_47 : decode cX8_askNow 47 = .ok (.iload 6, 2) := by decide +kernel
theorem dX8_askNow_49 : decode cX8_askNow 49 = .ok (.iload 4, 2) := by decide +kernel
theorem dX8_askNow_51 : decode cX8_askNow 51 = .ok (.invokestatic 320, 3) := by decide +kernel
theorem dX8_askNow_54 : decode cX8_askNow 54 = .ok (.ifCond .eq 7, 3) := by decide +kernel
theorem dX8_askNow_57 : decode cX8_askNow 57 = .ok (.iconst 1, 1) := by decide +kernel
theorem dX8_askNow_58 : decode cX8_askNow 58 = .ok (.goto 4, 3) := by decide +kernel
theorem dX8_askNow_61 : decode cX8_askNow 61 = .ok (.iconst 0, 1) := by decide +kernel
theorem dX8_askNow_62 : decode cX8_askNow 62 = .ok (.iadd, 1) := by decide +kernel
theorem dX8_askNow_63 : decode cX8_askNow 63 = .ok (.istore 5, 2) := by decide +kernel
theorem dX8_askNow_65 : decode cX8_askNow 65 = .ok (.iinc 6 1, 3) := by decide +kernel
theorem dX8_askNow_68 : decode cX8_askNow 68 = .ok (.goto (-38), 3) := by decide +kernel
theorem dX8_askNow_71 : decode cX8_askNow 71 = .ok (.iload_n 1, 1) := by decide +kernel
theorem dX8_askNow_72 : decode cX8_askNow 72 = .ok (.invokestatic 214, 3) := by decide +kernel
theorem dX8_askNow_75 : decode cX8_askNow 75 = .ok (.iload 5, 2) := by decide +kernel
theorem dX8_askNow_77 : decode cX8_askNow 77 = .ok (.isub, 1) := by decide +kernel
theorem dX8_askNow_78 : decode cX8_askNow 78 = .ok (.istore 6, 2) := by decide +kernel
theorem dX8_askNow_80 : decode cX8_askNow 80 = .ok (.iload 5, 2) := by decide +kernel
theorem dX8_askNow_82 : decode cX8_askNow 82 = .ok (.iload 6, 2) := by decide +kernel
theorem dX8_askNow_84 : decode cX8_askNow 84 = .ok (.if_icmp .le 8, 3) := by decide +kernel
theorem dX8_askNow_87 : decode cX8_askNow 87 = .ok (.iload 5, 2) := by decide +kernel
theorem dX8_askNow_89 : decode cX8_askNow 89 = .ok (.goto 5, 3) := by decide +kernel
theorem dX8_askNow_92 : decode cX8_askNow 92 = .ok (.iload 6, 2) := by decide +kernel
theorem dX8_askNow_94 : decode cX8_askNow 94 = .ok (.istore 7, 2) := by decide +kernel
theorem dX8_askNow_96 : decode cX8_askNow 96 = .ok (.iload 7, 2) := by decide +kernel
theorem dX8_askNow_98 : decode cX8_askNow 98 = .ok (.iload_n 3, 1) := by decide +kernel
theorem dX8_askNow_99 : decode cX8_askNow 99 = .ok (.if_icmp .ge 8, 3) := by decide +kernel
theorem dX8_askNow_102 : decode cX8_askNow 102 = .ok (.iload 4, 2) := by decide +kernel
theorem dX8_askNow_104 : decode cX8_askNow 104 = .ok (.goto 4, 3) := by decide +kernel
theorem dX8_askNow_107 : decode cX8_askNow 107 = .ok (.iload_n 2, 1) := by decide +kernel
theorem dX8_askNow_108 : decode cX8_askNow 108 = .ok (.istore_n 2, 1) := by decide +kernel
theorem dX8_askNow_109 : decode cX8_askNow 109 = .ok (.iload 7, 2) := by decide +kernel
theorem dX8_askNow_111 : decode cX8_askNow 111 = .ok (.iload_n 3, 1) := by decide +kernel
theorem dX8_askNow_112 : decode cX8_askNow 112 = .ok (.if_icmp .ge 8, 3) := by decide +kernel
theorem dX8_askNow_115 : decode cX8_askNow 115 = .ok (.iload 7, 2) := by decide +kernel
theorem dX8_askNow_117 : decode cX8_askNow 117 = .ok (.goto 4, 3) := by decide +kernel
theorem dX8_askNow_120 : decode cX8_askNow 120 = .ok (.iload_n 3, 1) := by decide +kernel
theorem dX8_askNow_121 : decode cX8_askNow 121 = .ok (.istore_n 3, 1) := by decide +kernel
theorem dX8_askNow_122 : decode cX8_askNow 122 = .ok (.iinc 4 1, 3) := by decide +kernel
theorem dX8_askNow_125 : decode cX8_askNow 125 = .ok (.goto (-111), 3) := by decide +kernel
theorem dX8_askNow_128 : decode cX8_askNow 128 = .ok (.iload_n 2, 1) := by decide +kernel
theorem dX8_askNow_129 : decode cX8_askNow 129 = .ok (.ireturn, 1) := by decide +kernel
theorem dX8_sorts_0 : decode cX8_sorts 0 = .ok (.iload_n 1, 1) := by decide +kernel
theorem dX8_sorts_1 : decode cX8_sorts 1 = .ok (.iconst 0, 1) := by decide +kernel
theorem dX8_sorts_2 : decode cX8_sorts 2 = .ok (.iconst 1, 1) := by decide +kernel
theorem dX8_sorts_3 : decode cX8_sorts 3 = .ok (.invokestatic 99, 3) := by decide +kernel
theorem dX8_sorts_6 : decode cX8_sorts 6 = .ok (.ifCond .ne 8, 3) := by decide +kernel
theorem dX8_sorts_9 : decode cX8_sorts 9 = .ok (.bipush (-102), 2) := by decide +kernel
theorem dX8_sorts_11 : decode cX8_sorts 11 = .ok (.goto 18, 3) := by decide +kernel
theorem dX8_sorts_14 : decode cX8_sorts 14 = .ok (.iload_n 1, 1) := by decide +kernel
theorem dX8_sorts_15 : decode cX8_sorts 15 = .ok (.ifCond .ne 10, 3) := by decide +kernel
theorem dX8_sorts_18 : decode cX8_sorts 18 = .ok (.aload_n 0, 1) := by decide +kernel
theorem dX8_sorts_19 : decode cX8_sorts 19 = .ok (.invokevirtual 323, 3) := by decide +kernel
theorem dX8_sorts_22 : decode cX8_sorts 22 = .ok (.goto 7, 3) := by decide +kernel
theorem dX8_sorts_25 : decode cX8_sorts 25 = .ok (.aload_n 0, 1) := by decide +kernel
theorem dX8_sorts_26 : decode cX8_sorts 26 = .ok (.invokevirtual 326, 3) := by decide +kernel
theorem dX8_sorts_29 : decode cX8_sorts 29 = .ok (.ireturn, 1) := by decide +kernel
theorem dX8_draw_0 : decode cX8_draw 0 = .ok (.aload_n 0, 1) := by decide +kernel
theorem dX8_draw_1 : decode cX8_draw 1 = .ok (.ldc2_w 329, 3) := by decide +kernel
theorem dX8_draw_4 : decode cX8_draw 4 = .ok (.aload_n 0, 1) := by decide +kernel
theorem dX8_draw_5 : decode cX8_draw 5 = .ok (.getfield 331, 3) := by decide +kernel
theorem dX8_draw_8 : decode cX8_draw 8 = .ok (.lmul, 1) := by decide +kernel
theorem dX8_draw_9 : decode cX8_draw 9 = .ok (.ldc2_w 335, 3) := by decide +kernel
theorem dX8_draw_12 : decode cX8_draw 12 = .ok (.ladd, 1) := by decide +kernel
theorem dX8_draw_13 : decode cX8_draw 13 = .ok (.ldc2_w 337, 3) := by decide +kernel
theorem dX8_draw_16 : decode cX8_draw 16 = .ok (.land, 1) := by decide +kernel
theorem dX8_draw_17 : decode cX8_draw 17 = .ok (.putfield 331, 3) := by decide +kernel
theorem dX8_draw_20 : decode cX8_draw 20 = .ok (.aload_n 0, 1) := by decide +kernel
theorem dX8_draw_21 : decode cX8_draw 21 = .ok (.getfield 331, 3) := by decide +kernel
theorem dX8_draw_24 : decode cX8_draw 24 = .ok (.ldc2_w 339, 3) := by decide +kernel
theorem dX8_draw_27 : decode cX8_draw 27 = .ok (.ldiv, 1) := by decide +kernel
theorem dX8_draw_28 : decode cX8_draw 28 = .ok (.iload_n 1, 1) := by decide +kernel
theorem dX8_draw_29 : decode cX8_draw 29 = .ok (.i2l, 1) := by decide +kernel
theorem dX8_draw_30 : decode cX8_draw 30 = .ok (.lrem, 1) := by decide +kernel
theorem dX8_draw_31 : decode cX8_draw 31 = .ok (.l2i, 1) := by decide +kernel
theorem dX8_draw_32 : decode cX8_draw 32 = .ok (.ireturn, 1) := by decide +kernel
theorem dX8_drawnNow_0 : decode cX8_drawnNow 0 = .ok (.aload_n 0, 1) := by decide +kernel
theorem dX8_drawnNow_1 : decode cX8_drawnNow 1 = .ok (.getfield 17, 3) := by decide +kernel
theorem dX8_drawnNow_4 : decode cX8_drawnNow 4 = .ok (.iconst 0, 1) := by decide +kernel
theorem dX8_drawnNow_5 : decode cX8_drawnNow 5 = .ok (.iaload, 1) := by decide +kernel
theorem dX8_drawnNow_6 : decode cX8_drawnNow 6 = .ok (.istore 4, 2) := by decide +kernel
theorem dX8_drawnNow_8 : decode cX8_drawnNow 8 = .ok (.aload_n 0, 1) := by decide +kernel
theorem dX8_drawnNow_9 : decode cX8_drawnNow 9 = .ok (.getfield 17, 3) := by decide +kernel
theorem dX8_drawnNow_12 : decode cX8_drawnNow 12 = .ok (.iconst 1, 1) := by decide +kernel
theorem dX8_drawnNow_13 : decode cX8_drawnNow 13 = .ok (.iaload, 1) := by decide +kernel
theorem dX8_drawnNow_14 : decode cX8_drawnNow 14 = .ok (.istore 5, 2) := by decide +kernel
theorem dX8_drawnNow_16 : decode cX8_drawnNow 16 = .ok (.iconst 0, 1) := by decide +kernel
theorem dX8_drawnNow_17 : decode cX8_drawnNow 17 = .ok (.istore 6, 2) := by decide +kernel
theorem dX8_drawnNow_19 : decode cX8_drawnNow 19 = .ok (.iload 6, 2) := by decide +kernel
theorem dX8_drawnNow_21 : decode cX8_drawnNow 21 = .ok (.bipush 28, 2) := by decide +kernel
theorem dX8_drawnNow_23 : decode cX8_drawnNow 23 = .ok (.if_icmp .ge 23, 3) := by decide +kernel
theorem dX8_drawnNow_26 : decode cX8_drawnNow 26 = .ok (.aload_n 0, 1) := by decide +kernel
theorem dX8_drawnNow_27 : decode cX8_drawnNow 27 = .ok (.getfield 84, 3) := by decide +kernel
theorem dX8_drawnNow_30 : decode cX8_drawnNow 30 = .ok (.iload 6, 2) := by decide +kernel
theorem dX8_drawnNow_32 : decode cX8_drawnNow 32 = .ok (.aload_n 0, 1) := by decide +kernel
theorem dX8_drawnNow_33 : decode cX8_drawnNow 33 = .ok (.getfield 13, 3) := by decide +kernel
theorem dX8_drawnNow_36 : decode cX8_drawnNow 36 = .ok (.iload 6, 2) := by decide +kernel
theorem dX8_drawnNow_38 : decode cX8_drawnNow 38 = .ok (.iaload, 1) := by decide +kernel
theorem dX8_drawnNow_39 : decode cX8_drawnNow 39 = .ok (.iastore, 1) := by decide +kernel
theorem dX8_drawnNow_40 : decode cX8_drawnNow 40 = .ok (.iinc 6 1, 3) := by decide +kernel
theorem dX8_drawnNow_43 : decode cX8_drawnNow 43 = .ok (.goto (-24), 3) := by decide +kernel
theorem dX8_drawnNow_46 : decode cX8_drawnNow 46 = .ok (.aload_n 0, 1) := by decide +kernel
theorem dX8_drawnNow_47 : decode cX8_drawnNow 47 = .ok (.getfield 17, 3) := by decide +kernel
theorem dX8_drawnNow_50 : decode cX8_drawnNow 50 = .ok (.iconst 0, 1) := by decide +kernel
theorem dX8_drawnNow_51 : decode cX8_drawnNow 51 = .ok (.bipush 8, 2) := by decide +kernel
theorem dX8_drawnNow_53 : decode cX8_drawnNow 53 = .ok (.iastore, 1) := by decide +kernel
theorem dX8_drawnNow_54 : decode cX8_drawnNow 54 = .ok (.aload_n 0, 1) := by decide +kernel
theorem dX8_drawnNow_55 : decode cX8_drawnNow 55 = .ok (.getfield 17, 3) := by decide +kernel
theorem dX8_drawnNow_58 : decode cX8_drawnNow 58 = .ok (.iconst 1, 1) := by decide +kernel
theorem dX8_drawnNow_59 : decode cX8_drawnNow 59 = .ok (.bipush 8, 2) := by decide +kernel
theorem dX8_drawnNow_61 : decode cX8_drawnNow 61 = .ok (.iastore, 1) := by decide +kernel
theorem dX8_drawnNow_62 : decode cX8_drawnNow 62 = .ok (.aload_n 0, 1) := by decide +kernel
theorem dX8_drawnNow_63 : decode cX8_drawnNow 63 = .ok (.iload_n 2, 1) := by decide +kernel
theorem dX8_drawnNow_64 : decode cX8_drawnNow 64 = .ok (.i2l, 1) := by decide +kernel
theorem dX8_drawnNow_65 : decode cX8_drawnNow 65 = .ok (.putfield 331, 3) := by decide +kernel
theorem dX8_drawnNow_68 : decode cX8_drawnNow 68 = .ok (.iconst 0, 1) := by decide +kernel
theorem dX8_drawnNow_69 : decode cX8_drawnNow 69 = .ok (.istore 6, 2) := by decide +kernel
theorem dX8_drawnNow_71 : decode cX8_drawnNow 71 = .ok (.iconst 0, 1) := by decide +kernel
theorem dX8_drawnNow_72 : decode cX8_drawnNow 72 = .ok (.istore 7, 2) := by decide +kernel
theorem dX8_drawnNow_74 : decode cX8_drawnNow 74 = .ok (.iconst 0, 1) := by decide +kernel
theorem dX8_drawnNow_75 : decode cX8_drawnNow 75 = .ok (.istore 8, 2) := by decide +kernel
theorem dX8_drawnNow_77 : decode cX8_drawnNow 77 = .ok (.iload 8, 2) := by decide +kernel
theorem dX8_drawnNow_79 : decode cX8_drawnNow 79 = .ok (.iload_n 1, 1) := by decide +kernel
theorem dX8_drawnNow_80 : decode cX8_drawnNow 80 = .ok (.if_icmp .ge 96, 3) := by decide +kernel
theorem dX8_drawnNow_83 : decode cX8_drawnNow 83 = .ok (.iconst 0, 1) := by decide +kernel
theorem dX8_drawnNow_84 : decode cX8_drawnNow 84 = .ok (.istore 9, 2) := by decide +kernel
theorem dX8_drawnNow_86 : decode cX8_drawnNow 86 = .ok (.iload 9, 2) := by decide +kernel
theorem dX8_drawnNow_88 : decode cX8_drawnNow 88 = .ok (.bipush 16, 2) := by decide +kernel
theorem dX8_drawnNow_90 : decode cX8_drawnNow 90 = .ok (.if_icmp .ge 55, 3) := by decide +kernel
theorem dX8_drawnNow_93 : decode cX8_drawnNow 93 = .ok (.aload_n 0, 1) := by decide +kernel
theorem dX8_drawnNow_94 : decode cX8_drawnNow 94 = .ok (.bipush 17, 2) := by decide +kernel
theorem dX8_drawnNow_96 : decode cX8_drawnNow 96 = .ok (.invokevirtual 341, 3) := by decide +kernel
theorem dX8_drawnNow_99 : decode cX8_drawnNow 99 = .ok (.istore 10, 2) := by decide +kernel
theorem dX8_drawnNow_101 : decode cX8_drawnNow 101 = .ok (.aload_n 0, 1) := by decide +kernel
theorem dX8_drawnNow_102 : decode cX8_drawnNow 102 = .ok (.getfield 13, 3) := by decide +kernel
theorem dX8_drawnNow_105 : decode cX8_drawnNow 105 = .ok (.iload 9, 2) := by decide +kernel
theorem dX8_drawnNow_107 : decode cX8_drawnNow 107 = .ok (.bipush 8, 2) := by decide +kernel
theorem dX8_drawnNow_109 : decode cX8_drawnNow 109 = .ok (.if_icmp .ge 8, 3) := by decide +kernel
theorem dX8_drawnNow_112 : decode cX8_drawnNow 112 = .ok (.iload 9, 2) := by decide +kernel
theorem dX8_drawnNow_114 : decode cX8_drawnNow 114 = .ok (.goto 11, 3) := by decide +kernel
theorem dX8_drawnNow_117 : decode cX8_drawnNow 117 = .ok (.bipush 14, 2) := by decide +kernel
theorem dX8_drawnNow_119 : decode cX8_drawnNow 119 = .ok (.iload 9, 2) := by decide +kernel
theorem dX8_drawnNow_121 : decode cX8_drawnNow 121 = .ok (.iadd, 1) := by decide +kernel
theorem dX8_drawnNow_122 : decode cX8_drawnNow 122 = .ok (.bipush 8, 2) := by decide +kernel
theorem dX8_drawnNow_124 : decode cX8_drawnNow 124 = .ok (.isub, 1) := by decide +kernel
theorem dX8_drawnNow_125 : decode cX8_drawnNow 125 = .ok (.iload 10, 2) := by decide +kernel
theorem dX8_drawnNow_127 : decode cX8_drawnNow 127 = .ok (.bipush 16, 2) := by decide +kernel
theorem dX8_drawnNow_129 : decode cX8_drawnNow 129 = .ok (.if_icmp .ne 7, 3) := by decide +kernel
theorem dX8_drawnNow_132 : decode cX8_drawnNow 132 = .ok (.iconst (-1), 1) := by decide +kernel
theorem dX8_drawnNow_133 : decode cX8_drawnNow 133 = .ok (.goto 5, 3) := by decide +kernel
theorem dX8_drawnNow_136 : decode cX8_drawnNow 136 = .ok (.iload 10, 2) := by decide +kernel
theorem dX8_drawnNow_138 : decode cX8_drawnNow 138 = .ok (.iastore, 1) := by decide +kernel
theorem dX8_drawnNow_139 : decode cX8_drawnNow 139 = .ok (.iinc 9 1, 3) := by decide +kernel
theorem dX8_drawnNow_142 : decode cX8_drawnNow 142 = .ok (.goto (-56), 3) := by decide +kernel
theorem dX8_drawnNow_145 : decode cX8_drawnNow 145 = .ok (.aload_n 0, 1) := by decide +kernel
theorem dX8_drawnNow_146 : decode cX8_drawnNow 146 = .ok (.ldc_w 316, 3) := by decide +kernel
theorem dX8_drawnNow_149 : decode cX8_drawnNow 149 = .ok (.invokevirtual 304, 3) := by decide +kernel
theorem dX8_drawnNow_152 : decode cX8_drawnNow 152 = .ok (.iload 6, 2) := by decide +kernel
theorem dX8_drawnNow_154 : decode cX8_drawnNow 154 = .ok (.aload_n 0, 1) := by decide +kernel
theorem dX8_drawnNow_155 : decode cX8_drawnNow 155 = .ok (.getfield 186, 3) := by decide +kernel
theorem dX8_drawnNow_158 : decode cX8_drawnNow 158 = .ok (.iadd, 1) := by decide +kernel
theorem dX8_drawnNow_159 : decode cX8_drawnNow 159 = .ok (.istore 6, 2) := by decide +kernel
theorem dX8_drawnNow_161 : decode cX8_drawnNow 161 = .ok (.iload 7, 2) := by decide +kernel
theorem dX8_drawnNow_163 : decode cX8_drawnNow 163 = .ok (.aload_n 0, 1) := by decide +kernel
theorem dX8_drawnNow_164 : decode cX8_drawnNow 164 = .ok (.getfield 252, 3) := by decide +kernel
theorem dX8_drawnNow_167 : decode cX8_drawnNow 167 = .ok (.iadd, 1) := by decide +kernel
theorem dX8_drawnNow_168 : decode cX8_drawnNow 168 = .ok (.istore 7, 2) := by decide +kernel
theorem dX8_drawnNow_170 : decode cX8_drawnNow 170 = .ok (.iinc 8 1, 3) := by decide +kernel
theorem dX8_drawnNow_173 : decode cX8_drawnNow 173 = .ok (.goto (-96), 3) := by decide +kernel
theorem dX8_drawnNow_176 : decode cX8_drawnNow 176 = .ok (.aload_n 0, 1) := by decide +kernel
theorem dX8_drawnNow_177 : decode cX8_drawnNow 177 = .ok (.getfield 17, 3) := by decide +kernel
theorem dX8_drawnNow_180 : decode cX8_drawnNow 180 = .ok (.iconst 0, 1) := by decide +kernel
theorem dX8_drawnNow_181 : decode cX8_drawnNow 181 = .ok (.iload 4, 2) := by decide +kernel
theorem dX8_drawnNow_183 : decode cX8_drawnNow 183 = .ok (.iastore, 1) := by decide +kernel
theorem dX8_drawnNow_184 : decode cX8_drawnNow 184 = .ok (.aload_n 0, 1) := by decide +kernel
theorem dX8_drawnNow_185 : decode cX8_drawnNow 185 = .ok (.getfield 17, 3) := by decide +kernel
theorem dX8_drawnNow_188 : decode cX8_drawnNow 188 = .ok (.iconst 1, 1) := by decide +kernel
theorem dX8_drawnNow_189 : decode cX8_drawnNow 189 = .ok (.iload 5, 2) := by decide +kernel
theorem dX8_drawnNow_191 : decode cX8_drawnNow 191 = .ok (.iastore, 1) := by decide +kernel
theorem dX8_drawnNow_192 : decode cX8_drawnNow 192 = .ok (.iconst 0, 1) := by decide +kernel
theorem dX8_drawnNow_193 : decode cX8_drawnNow 193 = .ok (.istore 8, 2) := by decide +kernel
theorem dX8_drawnNow_195 : decode cX8_drawnNow 195 = .ok (.iload 8, 2) := by decide +kernel
theorem dX8_drawnNow_197 : decode cX8_drawnNow 197 = .ok (.bipush 28, 2) := by decide +kernel
theorem dX8_drawnNow_199 : decode cX8_drawnNow 199 = .ok (.if_icmp .ge 23, 3) := by decide +kernel
theorem dX8_drawnNow_202 : decode cX8_drawnNow 202 = .ok (.aload_n 0, 1) := by decide +kernel
theorem dX8_drawnNow_203 : decode cX8_drawnNow 203 = .ok (.getfield 13, 3) := by decide +kernel
theorem dX8_drawnNow_206 : decode cX8_drawnNow 206 = .ok (.iload 8, 2) := by decide +kernel
theorem dX8_drawnNow_208 : decode cX8_drawnNow 208 = .ok (.aload_n 0, 1) := by decide +kernel
theorem dX8_drawnNow_209 : decode cX8_drawnNow 209 = .ok (.getfield 84, 3) := by decide +kernel
theorem dX8_drawnNow_212 : decode cX8_drawnNow 212 = .ok (.iload 8, 2) := by decide +kernel
theorem dX8_drawnNow_214 : decode cX8_drawnNow 214 = .ok (.iaload, 1) := by decide +kernel
theorem dX8_drawnNow_215 : decode cX8_drawnNow 215 = .ok (.iastore, 1) := by decide +kernel
theorem dX8_drawnNow_216 : decode cX8_drawnNow 216 = .ok (.iinc 8 1, 3) := by decide +kernel
theorem dX8_drawnNow_219 : decode cX8_drawnNow 219 = .ok (.goto (-24), 3) := by decide +kernel
theorem dX8_drawnNow_222 : decode cX8_drawnNow 222 = .ok (.iload_n 3, 1) := by decide +kernel
theorem dX8_drawnNow_223 : decode cX8_drawnNow 223 = .ok (.ifCond .ne 8, 3) := by decide +kernel
theorem dX8_drawnNow_226 : decode cX8_drawnNow 226 = .ok (.iload 6, 2) := by decide +kernel
theorem dX8_drawnNow_228 : decode cX8_drawnNow 228 = .ok (.goto 18, 3) := by decide +kernel
theorem dX8_drawnNow_231 : decode cX8_drawnNow 231 = .ok (.iload_n 3, 1) := by decide +kernel
theorem dX8_drawnNow_232 : decode cX8_drawnNow 232 = .ok (.iconst 1, 1) := by decide +kernel
theorem dX8_drawnNow_233 : decode cX8_drawnNow 233 = .ok (.if_icmp .ne 8, 3) := by decide +kernel
theorem dX8_drawnNow_236 : decode cX8_drawnNow 236 = .ok (.iload 7, 2) := by decide +kernel
theorem dX8_drawnNow_238 : decode cX8_drawnNow 238 = .ok (.goto 8, 3) := by decide +kernel
theorem dX8_drawnNow_241 : decode cX8_drawnNow 241 = .ok (.aload_n 0, 1) := by decide +kernel
theorem dX8_drawnNow_242 : decode cX8_drawnNow 242 = .ok (.getfield 331, 3) := by decide +kernel
theorem dX8_drawnNow_245 : decode cX8_drawnNow 245 = .ok (.l2i, 1) := by decide +kernel
theorem dX8_drawnNow_246 : decode cX8_drawnNow 246 = .ok (.ireturn, 1) := by decide +kernel
theorem dX8_drawn_0 : decode cX8_drawn 0 = .ok (.iload_n 1, 1) := by decide +kernel
theorem dX8_drawn_1 : decode cX8_drawn 1 = .ok (.iconst 1, 1) := by decide +kernel
theorem dX8_drawn_2 : decode cX8_drawn 2 = .ok (.bipush 10, 2) := by decide +kernel
theorem dX8_drawn_4 : decode cX8_drawn 4 = .ok (.invokestatic 99, 3) := by decide +kernel
theorem dX8_drawn_7 : decode cX8_drawn 7 = .ok (.ifCond .eq 16, 3) := by decide +kernel
theorem dX8_drawn_10 : decode cX8_drawn 10 = .ok (.iload_n 2, 1) := by decide +kernel
theorem dX8_drawn_11 : decode cX8_drawn 11 = .ok (.ifCond .lt 12, 3) := by decide +kernel
theorem dX8_drawn_14 : decode cX8_drawn 14 = .ok (.iload_n 3, 1) := by decide +kernel
theorem dX8_drawn_15 : decode cX8_drawn 15 = .ok (.iconst 0, 1) := by decide +kernel
theorem dX8_drawn_16 : decode cX8_drawn 16 = .ok (.iconst 2, 1) := by decide +kernel
theorem dX8_drawn_17 : decode cX8_drawn 17 = .ok (.invokestatic 99, 3) := by decide +kernel
theorem dX8_drawn_20 : decode cX8_drawn 20 = .ok (.ifCond .ne 6, 3) := by decide +kernel
theorem dX8_drawn_23 : decode cX8_drawn 23 = .ok (.bipush (-102), 2) := by decide +kernel
theorem dX8_drawn_25 : decode cX8_drawn 25 = .ok (.ireturn, 1) := by decide +kernel
theorem dX8_drawn_26 : decode cX8_drawn 26 = .ok (.aload_n 0, 1) := by decide +kernel
theorem dX8_drawn_27 : decode cX8_drawn 27 = .ok (.getfield 143, 3) := by decide +kernel
theorem dX8_drawn_30 : decode cX8_drawn 30 = .ok (.ifCond .ne 8, 3) := by decide +kernel
theorem dX8_drawn_33 : decode cX8_drawn 33 = .ok (.bipush (-103), 2) := by decide +kernel
theorem dX8_drawn_35 : decode cX8_drawn 35 = .ok (.goto 10, 3) := by decide +kernel
theorem dX8_drawn_38 : decode cX8_drawn 38 = .ok (.aload_n 0, 1) := by decide +kernel
theorem dX8_drawn_39 : decode cX8_drawn 39 = .ok (.iload_n 1, 1) := by decide +kernel
theorem dX8_drawn_40 : decode cX8_drawn 40 = .ok (.iload_n 2, 1) := by decide +kernel
theorem dX8_drawn_41 : decode cX8_drawn 41 = .ok (.iload_n 3, 1) := by decide +kernel
theorem dX8_drawn_42 : decode cX8_drawn 42 = .ok (.invokevirtual 344, 3) := by decide +kernel
theorem dX8_drawn_45 : decode cX8_drawn 45 = .ok (.ireturn, 1) := by decide +kernel
theorem dX8_image_0 : decode cX8_image 0 = .ok (.aload_n 0, 1) := by decide +kernel
theorem dX8_image_1 : decode cX8_image 1 = .ok (.getfield 143, 3) := by decide +kernel
theorem dX8_image_4 : decode cX8_image 4 = .ok (.ifCond .ne 6, 3) := by decide +kernel
theorem dX8_image_7 : decode cX8_image 7 = .ok (.bipush (-103), 2) := by decide +kernel
theorem dX8_image_9 : decode cX8_image 9 = .ok (.ireturn, 1) := by decide +kernel
theorem dX8_image_10 : decode cX8_image 10 = .ok (.aload_n 0, 1) := by decide +kernel
theorem dX8_image_11 : decode cX8_image 11 = .ok (.iconst 1, 1) := by decide +kernel
theorem dX8_image_12 : decode cX8_image 12 = .ok (.putfield 347, 3) := by decide +kernel
theorem dX8_image_15 : decode cX8_image 15 = .ok (.aload_n 0, 1) := by decide +kernel
theorem dX8_image_16 : decode cX8_image 16 = .ok (.aload_n 0, 1) := by decide +kernel
theorem dX8_image_17 : decode cX8_image 17 = .ok (.getfield 143, 3) := by decide +kernel
theorem dX8_image_20 : decode cX8_image 20 = .ok (.putfield 350, 3) := by decide +kernel
theorem dX8_image_23 : decode cX8_image 23 = .ok (.aload_n 0, 1) := by decide +kernel
theorem dX8_image_24 : decode cX8_image 24 = .ok (.aload_n 0, 1) := by decide +kernel
theorem dX8_image_25 : decode cX8_image 25 = .ok (.getfield 134, 3) := by decide +kernel
theorem dX8_image_28 : decode cX8_image 28 = .ok (.putfield 353, 3) := by decide +kernel
theorem dX8_image_31 : decode cX8_image 31 = .ok (.aload_n 0, 1) := by decide +kernel
theorem dX8_image_32 : decode cX8_image 32 = .ok (.aload_n 0, 1) := by decide +kernel
theorem dX8_image_33 : decode cX8_image 33 = .ok (.getfield 9, 3) := by decide +kernel
theorem dX8_image_36 : decode cX8_image 36 = .ok (.putfield 356, 3) := by decide +kernel
theorem dX8_image_39 : decode cX8_image 39 = .ok (.aload_n 0, 1) := by decide +kernel
theorem dX8_image_40 : decode cX8_image 40 = .ok (.aload_n 0, 1) := by decide +kernel
theorem dX8_image_41 : decode cX8_image 41 = .ok (.getfield 17, 3) := by decide +kernel
theorem dX8_image_44 : decode cX8_image 44 = .ok (.iconst 0, 1) := by decide +kernel
theorem dX8_image_45 : decode cX8_image 45 = .ok (.iaload, 1) := by decide +kernel
theorem dX8_image_46 : decode cX8_image 46 = .ok (.putfield 359, 3) := by decide +kernel
theorem dX8_image_49 : decode cX8_image 49 = .ok (.aload_n 0, 1) := by decide +kernel
theorem dX8_image_50 : decode cX8_image 50 = .ok (.aload_n 0, 1) := by decide +kernel
theorem dX8_image_51 : decode cX8_image 51 = .ok (.getfield 17, 3) := by decide +kernel
theorem dX8_image_54 : decode cX8_image 54 = .ok (.iconst 1, 1) := by decide +kernel
theorem dX8_image_55 : decode cX8_image 55 = .ok (.iaload, 1) := by decide +kernel
theorem dX8_image_56 : decode cX8_image 56 = .ok (.putfield 362, 3) := by decide +kernel
theorem dX8_image_59 : decode cX8_image 59 = .ok (.aload_n 0, 1) := by decide +kernel
theorem dX8_image_60 : decode cX8_image 60 = .ok (.aload_n 0, 1) := by decide +kernel
theorem dX8_image_61 : decode cX8_image 61 = .ok (.getfield 146, 3) := by decide +kernel
theorem dX8_image_64 : decode cX8_image 64 = .ok (.putfield 365, 3) := by decide +kernel
theorem dX8_image_67 : decode cX8_image 67 = .ok (.iconst 0, 1) := by decide +kernel
theorem dX8_image_68 : decode cX8_image 68 = .ok (.istore_n 1, 1) := by decide +kernel
theorem dX8_image_69 : decode cX8_image 69 = .ok (.iload_n 1, 1) := by decide +kernel
theorem dX8_image_70 : decode cX8_image 70 = .ok (.bipush 28, 2) := by decide +kernel
theorem dX8_image_72 : decode cX8_image 72 = .ok (.if_icmp .ge 21, 3) := by decide +kernel
theorem dX8_image_75 : decode cX8_image 75 = .ok (.aload_n 0, 1) := by decide +kernel
theorem dX8_image_76 : decode cX8_image 76 = .ok (.getfield 87, 3) := by decide +kernel
theorem dX8_image_79 : decode cX8_image 79 = .ok (.iload_n 1, 1) := by decide +kernel
theorem dX8_image_80 : decode cX8_image 80 = .ok (.aload_n 0, 1) := by decide +kernel
theorem dX8_image_81 : decode cX8_image 81 = .ok (.getfield 13, 3) := by decide +kernel
theorem dX8_image_84 : decode cX8_image 84 = .ok (.iload_n 1, 1) := by decide +kernel
theorem dX8_image_85 : decode cX8_image 85 = .ok (.iaload, 1) := by decide +kernel
theorem dX8_image_86 : decode cX8_image 86 = .ok (.iastore, 1) := by decide +kernel
theorem dX8_image_87 : decode cX8_image 87 = .ok (.iinc 1 1, 3) := by decide +kernel
theorem dX8_image_90 : decode cX8_image 90 = .ok (.goto (-21), 3) := by decide +kernel
theorem dX8_image_93 : decode cX8_image 93 = .ok (.iconst 0, 1) := by decide +kernel
theorem dX8_image_94 : decode cX8_image 94 = .ok (.istore_n 1, 1) := by decide +kernel
theorem dX8_image_95 : decode cX8_image 95 = .ok (.iload_n 1, 1) := by decide +kernel
theorem dX8_image_96 : decode cX8_image 96 = .ok (.bipush 6, 2) := by decide +kernel
theorem dX8_image_98 : decode cX8_image 98 = .ok (.if_icmp .ge 33, 3) := by decide +kernel
theorem dX8_image_101 : decode cX8_image 101 = .ok (.aload_n 0, 1) := by decide +kernel
theorem dX8_image_102 : decode cX8_image 102 = .ok (.getfield 90, 3) := by decide +kernel
theorem dX8_image_105 : decode cX8_image 105 = .ok (.iload_n 1, 1) := by decide +kernel
theorem dX8_image_106 : decode cX8_image 106 = .ok (.aload_n 0, 1) := by decide +kernel
theorem dX8_image_107 : decode cX8_image 107 = .ok (.getfield 20, 3) := by decide +kernel
theorem dX8_image_110 : decode cX8_image 110 = .ok (.iload_n 1, 1) := by decide +kernel
theorem dX8_image_111 : decode cX8_image 111 = .ok (.iaload, 1) := by decide +kernel
theorem dX8_image_112 : decode cX8_image 112 = .ok (.iastore, 1) := by decide +kernel
theorem dX8_image_113 : decode cX8_image 113 = .ok (.aload_n 0, 1) := by decide +kernel
theorem dX8_image_114 : decode cX8_image 114 = .ok (.getfield 93, 3) := by decide +kernel
theorem dX8_image_117 : decode cX8_image 117 = .ok (.iload_n 1, 1) := by decide +kernel
theorem dX8_image_118 : decode cX8_image 118 = .ok (.aload_n 0, 1) := by decide +kernel
theorem dX8_image_119 : decode cX8_image 119 = .ok (.getfield 23, 3) := by decide +kernel
theorem dX8_image_122 : decode cX8_image 122 = .ok (.iload_n 1, 1) := by decide +kernel
theorem dX8_image_123 : decode cX8_image 123 = .ok (.iaload, 1) := by decide +kernel
theorem dX8_image_124 : decode cX8_image 124 = .ok (.iastore, 1) := by decide +kernel
theorem dX8_image_125 : decode cX8_image 125 = .ok (.iinc 1 1, 3) := by decide +kernel
theorem dX8_image_128 : decode cX8_image 128 = .ok (.goto (-33), 3) := by decide +kernel
theorem dX8_image_131 : decode cX8_image 131 = .ok (.aload_n 0, 1) := by decide +kernel
theorem dX8_image_132 : decode cX8_image 132 = .ok (.getfield 17, 3) := by decide +kernel
theorem dX8_image_135 : decode cX8_image 135 = .ok (.iconst 0, 1) := by decide +kernel
theorem dX8_image_136 : decode cX8_image 136 = .ok (.iaload, 1) := by decide +kernel
theorem dX8_image_137 : decode cX8_image 137 = .ok (.aload_n 0, 1) := by decide +kernel
theorem dX8_image_138 : decode cX8_image 138 = .ok (.getfield 17, 3) := by decide +kernel
theorem dX8_image_141 : decode cX8_image 141 = .ok (.iconst 1, 1) := by decide +kernel
theorem dX8_image_142 : decode cX8_image 142 = .ok (.iaload, 1) := by decide +kernel
theorem dX8_image_143 : decode cX8_image 143 = .ok (.iadd, 1) := by decide +kernel
theorem dX8_image_144 : decode cX8_image 144 = .ok (.ireturn, 1) := by decide +kernel
theorem dX8_restore_0 : decode cX8_restore 0 = .ok (.aload_n 0, 1) := by decide +kernel
theorem dX8_restore_1 : decode cX8_restore 1 = .ok (.getfield 347, 3) := by decide +kernel
theorem dX8_restore_4 : decode cX8_restore 4 = .ok (.ifCond .eq 14, 3) := by decide +kernel
theorem dX8_restore_7 : decode cX8_restore 7 = .ok (.aload_n 0, 1) := by decide +kernel
theorem dX8_restore_8 : decode cX8_restore 8 = .ok (.getfield 350, 3) := by decide +kernel
theorem dX8_restore_11 : decode cX8_restore 11 = .ok (.aload_n 0, 1) := by decide +kernel
theorem dX8_restore_12 : decode cX8_restore 12 = .ok (.getfield 143, 3) := by decide +kernel
theorem dX8_restore_15 : decode cX8_restore 15 = .ok (.if_icmp .eq 6, 3) := by decide +kernel
theorem dX8_restore_18 : decode cX8_restore 18 = .ok (.bipush (-103), 2) := by decide +kernel
theorem dX8_restore_20 : decode cX8_restore 20 = .ok (.ireturn, 1) := by decide +kernel
theorem dX8_restore_21 : decode cX8_restore 21 = .ok (.aload_n 0, 1) := by decide +kernel
theorem dX8_restore_22 : decode cX8_restore 22 = .ok (.aload_n 0, 1) := by decide +kernel
theorem dX8_restore_23 : decode cX8_restore 23 = .ok (.getfield 353, 3) := by decide +kernel
theorem dX8_restore_26 : decode cX8_restore 26 = .ok (.putfield 134, 3) := by decide +kernel
theorem dX8_restore_29 : decode cX8_restore 29 = .ok (.aload_n 0, 1) := by decide +kernel
theorem dX8_restore_30 : decode cX8_restore 30 = .ok (.aload_n 0, 1) := by decide +kernel
theorem dX8_restore_31 : decode cX8_restore 31 = .ok (.getfield 356, 3) := by decide +kernel
theorem dX8_restore_34 : decode cX8_restore 34 = .ok (.putfield 9, 3) := by decide +kernel
theorem dX8_restore_37 : decode cX8_restore 37 = .ok (.aload_n 0, 1) := by decide +kernel
theorem dX8_restore_38 : decode cX8_restore 38 = .ok (.getfield 17, 3) := by decide +kernel
theorem dX8_restore_41 : decode cX8_restore 41 = .ok (.iconst 0, 1) := by decide +kernel
theorem dX8_restore_42 : decode cX8_restore 42 = .ok (.aload_n 0, 1) := by decide +kernel
theorem dX8_restore_43 : decode cX8_restore 43 = .ok (.getfield 359, 3) := by decide +kernel
theorem dX8_restore_46 : decode cX8_restore 46 = .ok (.iastore, 1) := by decide +kernel
theorem dX8_restore_47 : decode cX8_restore 47 = .ok (.aload_n 0, 1) := by decide +kernel
theorem dX8_restore_48 : decode cX8_restore 48 = .ok (.getfield 17, 3) := by decide +kernel
theorem dX8_restore_51 : decode cX8_restore 51 = .ok (.iconst 1, 1) := by decide +kernel
theorem dX8_restore_52 : decode cX8_restore 52 = .ok (.aload_n 0, 1) := by decide +kernel
theorem dX8_restore_53 : decode cX8_restore 53 = .ok (.getfield 362, 3) := by decide +kernel
theorem dX8_restore_56 : decode cX8_restore 56 = .ok (.iastore, 1) := by decide +kernel
theorem dX8_restore_57 : decode cX8_restore 57 = .ok (.aload_n 0, 1) := by decide +kernel
theorem dX8_restore_58 : decode cX8_restore 58 = .ok (.aload_n 0, 1) := by decide +kernel
theorem dX8_restore_59 : decode cX8_restore 59 = .ok (.getfield 365, 3) := by decide +kernel
theorem dX8_restore_62 : decode cX8_restore 62 = .ok (.putfield 146, 3) := by decide +kernel
theorem dX8_restore_65 : decode cX8_restore 65 = .ok (.iconst 0, 1) := by decide +kernel
theorem dX8_restore_66 : decode cX8_restore 66 = .ok (.istore_n 1, 1) := by decide +kernel
theorem dX8_restore_67 : decode cX8_restore 67 = .ok (.iload_n 1, 1) := by decide +kernel
theorem dX8_restore_68 : decode cX8_restore 68 = .ok (.bipush 28, 2) := by decide +kernel
theorem dX8_restore_70 : decode cX8_restore 70 = .ok (.if_icmp .ge 21, 3) := by decide +kernel
theorem dX8_restore_73 : decode cX8_restore 73 = .ok (.aload_n 0, 1) := by decide +kernel
theorem dX8_restore_74 : decode cX8_restore 74 = .ok (.getfield 13, 3) := by decide +kernel
theorem dX8_restore_77 : decode cX8_restore 77 = .ok (.iload_n 1, 1) := by decide +kernel
theorem dX8_restore_78 : decode cX8_restore 78 = .ok (.aload_n 0, 1) := by decide +kernel
theorem dX8_restore_79 : decode cX8_restore 79 = .ok (.getfield 87, 3) := by decide +kernel
theorem dX8_restore_82 : decode cX8_restore 82 = .ok (.iload_n 1, 1) := by decide +kernel
theorem dX8_restore_83 : decode cX8_restore 83 = .ok (.iaload, 1) := by decide +kernel
theorem dX8_restore_84 : decode cX8_restore 84 = .ok (.iastore, 1) := by decide +kernel
theorem dX8_restore_85 : decode cX8_restore 85 = .ok (.iinc 1 1, 3) := by decide +kernel
theorem dX8_restore_88 : decode cX8_restore 88 = .ok (.goto (-21), 3) := by decide +kernel
theorem dX8_restore_91 : decode cX8_restore 91 = .ok (.iconst 0, 1) := by decide +kernel
theorem dX8_restore_92 : decode cX8_restore 92 = .ok (.istore_n 1, 1) := by decide +kernel
theorem dX8_restore_93 : decode cX8_restore 93 = .ok (.iload_n 1, 1) := by decide +kernel
theorem dX8_restore_94 : decode cX8_restore 94 = .ok (.bipush 6, 2) := by decide +kernel
theorem dX8_restore_96 : decode cX8_restore 96 = .ok (.if_icmp .ge 33, 3) := by decide +kernel
theorem dX8_restore_99 : decode cX8_restore 99 = .ok (.aload_n 0, 1) := by decide +kernel
theorem dX8_restore_100 : decode cX8_restore 100 = .ok (.getfield 20, 3) := by decide +kernel
theorem dX8_restore_103 : decode cX8_restore 103 = .ok (.iload_n 1, 1) := by decide +kernel
theorem dX8_restore_104 : decode cX8_restore 104 = .ok (.aload_n 0, 1) := by decide +kernel
theorem dX8_restore_105 : decode cX8_restore 105 = .ok (.getfield 90, 3) := by decide +kernel
theorem dX8_restore_108 : decode cX8_restore 108 = .ok (.iload_n 1, 1) := by decide +kernel
theorem dX8_restore_109 : decode cX8_restore 109 = .ok (.iaload, 1) := by decide +kernel
theorem dX8_restore_110 : decode cX8_restore 110 = .ok (.iastore, 1) := by decide +kernel
theorem dX8_restore_111 : decode cX8_restore 111 = .ok (.aload_n 0, 1) := by decide +kernel
theorem dX8_restore_112 : decode cX8_restore 112 = .ok (.getfield 23, 3) := by decide +kernel
theorem dX8_restore_115 : decode cX8_restore 115 = .ok (.iload_n 1, 1) := by decide +kernel
theorem dX8_restore_116 : decode cX8_restore 116 = .ok (.aload_n 0, 1) := by decide +kernel
theorem dX8_restore_117 : decode cX8_restore 117 = .ok (.getfield 93, 3) := by decide +kernel
theorem dX8_restore_120 : decode cX8_restore 120 = .ok (.iload_n 1, 1) := by decide +kernel
theorem dX8_restore_121 : decode cX8_restore 121 = .ok (.iaload, 1) := by decide +kernel
theorem dX8_restore_122 : decode cX8_restore 122 = .ok (.iastore, 1) := by decide +kernel
theorem dX8_restore_123 : decode cX8_restore 123 = .ok (.iinc 1 1, 3) := by decide +kernel
theorem dX8_restore_126 : decode cX8_restore 126 = .ok (.goto (-33), 3) := by decide +kernel
theorem dX8_restore_129 : decode cX8_restore 129 = .ok (.aload_n 0, 1) := by decide +kernel
theorem dX8_restore_130 : decode cX8_restore 130 = .ok (.getfield 17, 3) := by decide +kernel
theorem dX8_restore_133 : decode cX8_restore 133 = .ok (.iconst 0, 1) := by decide +kernel
theorem dX8_restore_134 : decode cX8_restore 134 = .ok (.iaload, 1) := by decide +kernel
theorem dX8_restore_135 : decode cX8_restore 135 = .ok (.aload_n 0, 1) := by decide +kernel
theorem dX8_restore_136 : decode cX8_restore 136 = .ok (.getfield 17, 3) := by decide +kernel
theorem dX8_restore_139 : decode cX8_restore 139 = .ok (.iconst 1, 1) := by decide +kernel
theorem dX8_restore_140 : decode cX8_restore 140 = .ok (.iaload, 1) := by decide +kernel
theorem dX8_restore_141 : decode cX8_restore 141 = .ok (.iadd, 1) := by decide +kernel
theorem dX8_restore_142 : decode cX8_restore 142 = .ok (.ireturn, 1) := by decide +kernel
theorem dX8_keysOfAll_0 : decode cX8_keysOfAll 0 = .ok (.iconst 0, 1) := by decide +kernel
theorem dX8_keysOfAll_1 : decode cX8_keysOfAll 1 = .ok (.istore_n 1, 1) := by decide +kernel
theorem dX8_keysOfAll_2 : decode cX8_keysOfAll 2 = .ok (.iconst 0, 1) := by decide +kernel
theorem dX8_keysOfAll_3 : decode cX8_keysOfAll 3 = .ok (.istore_n 2, 1) := by decide +kernel
theorem dX8_keysOfAll_4 : decode cX8_keysOfAll 4 = .ok (.iload_n 2, 1) := by decide +kernel
theorem dX8_keysOfAll_5 : decode cX8_keysOfAll 5 = .ok (.iconst 2, 1) := by decide +kernel
theorem dX8_keysOfAll_6 : decode cX8_keysOfAll 6 = .ok (.if_icmp .ge 52, 3) := by decide +kernel
theorem dX8_keysOfAll_9 : decode cX8_keysOfAll 9 = .ok (.iconst 0, 1) := by decide +kernel
theorem dX8_keysOfAll_10 : decode cX8_keysOfAll 10 = .ok (.istore_n 3, 1) := by decide +kernel
theorem dX8_keysOfAll_11 : decode cX8_keysOfAll 11 = .ok (.iload_n 3, 1) := by decide +kernel
theorem dX8_keysOfAll_12 : decode cX8_keysOfAll 12 = .ok (.aload_n 0, 1) := by decide +kernel
theorem dX8_keysOfAll_13 : decode cX8_keysOfAll 13 = .ok (.getfield 17, 3) := by decide +kernel
theorem dX8_keysOfAll_16 : decode cX8_keysOfAll 16 = .ok (.iload_n 2, 1) := by decide +kernel
theorem dX8_keysOfAll_17 : decode cX8_keysOfAll 17 = .ok (.iaload, 1) := by decide +kernel
theorem dX8_keysOfAll_18 : decode cX8_keysOfAll 18 = .ok (.if_icmp .ge 34, 3) := by decide +kernel
theorem dX8_keysOfAll_21 : decode cX8_keysOfAll 21 = .ok (.iload_n 1, 1) := by decide +kernel
theorem dX8_keysOfAll_22 : decode cX8_keysOfAll 22 = .ok (.aload_n 0, 1) := by decide +kernel
theorem dX8_keysOfAll_23 : decode cX8_keysOfAll 23 = .ok (.iload_n 2, 1) := by decide +kernel
theorem dX8_keysOfAll_24 : decode cX8_keysOfAll 24 = .ok (.iload_n 3, 1) := by decide +kernel
theorem dX8_keysOfAll_25 : decode cX8_keysOfAll 25 = .ok (.invokevirtual 152, 3) := by decide +kernel
theorem dX8_keysOfAll_28 : decode cX8_keysOfAll 28 = .ok (.iconst (-1), 1) := by decide +kernel
theorem dX8_keysOfAll_29 : decode cX8_keysOfAll 29 = .ok (.if_icmp .ne 7, 3) := by decide +kernel
theorem dX8_keysOfAll_32 : decode cX8_keysOfAll 32 = .ok (.iconst 0, 1) := by decide +kernel
theorem dX8_keysOfAll_33 : decode cX8_keysOfAll 33 = .ok (.goto 11, 3) := by decide +kernel
theorem dX8_keysOfAll_36 : decode cX8_keysOfAll 36 = .ok (.iconst 1, 1) := by decide +kernel
theorem dX8_keysOfAll_37 : decode cX8_keysOfAll 37 = .ok (.aload_n 0, 1) := by decide +kernel
theorem dX8_keysOfAll_38 : decode cX8_keysOfAll 38 = .ok (.iload_n 2, 1) := by decide +kernel
theorem dX8_keysOfAll_39 : decode cX8_keysOfAll 39 = .ok (.iload_n 3, 1) := by decide +kernel
theorem dX8_keysOfAll_40 : decode cX8_keysOfAll 40 = .ok (.invokevirtual 152, 3) := by decide +kernel
theorem dX8_keysOfAll_43 : decode cX8_keysOfAll 43 = .ok (.ishl, 1) := by decide +kernel
theorem dX8_keysOfAll_44 : decode cX8_keysOfAll 44 = .ok (.ior, 1) := by decide +kernel
theorem dX8_keysOfAll_45 : decode cX8_keysOfAll 45 = .ok (.istore_n 1, 1) := by decide +kernel
theorem dX8_keysOfAll_46 : decode cX8_keysOfAll 46 = .ok (.iinc 3 1, 3) := by decide +kernel
theorem dX8_keysOfAll_49 : decode cX8_keysOfAll 49 = .ok (.goto (-38), 3) := by decide +kernel
theorem dX8_keysOfAll_52 : decode cX8_keysOfAll 52 = .ok (.iinc 2 1, 3) := by decide +kernel
theorem dX8_keysOfAll_55 : decode cX8_keysOfAll 55 = .ok (.goto (-51), 3) := by decide +kernel
theorem dX8_keysOfAll_58 : decode cX8_keysOfAll 58 = .ok (.iload_n 1, 1) := by decide +kernel
theorem dX8_keysOfAll_59 : decode cX8_keysOfAll 59 = .ok (.invokestatic 214, 3) := by decide +kernel
theorem dX8_keysOfAll_62 : decode cX8_keysOfAll 62 = .ok (.ireturn, 1) := by decide +kernel
theorem dX8_pairs_0 : decode cX8_pairs 0 = .ok (.iconst 0, 1) := by decide +kernel
theorem dX8_pairs_1 : decode cX8_pairs 1 = .ok (.istore_n 1, 1) := by decide +kernel
theorem dX8_pairs_2 : decode cX8_pairs 2 = .ok (.iconst 0, 1) := by decide +kernel
theorem dX8_pairs_3 : decode cX8_pairs 3 = .ok (.istore_n 2, 1) := by decide +kernel
theorem dX8_pairs_4 : decode cX8_pairs 4 = .ok (.iload_n 2, 1) := by decide +kernel
theorem dX8_pairs_5 : decode cX8_pairs 5 = .ok (.aload_n 0, 1) := by decide +kernel
theorem dX8_pairs_6 : decode cX8_pairs 6 = .ok (.getfield 17, 3) := by decide +kernel
theorem dX8_pairs_9 : decode cX8_pairs 9 = .ok (.iconst 0, 1) := by decide +kernel
theorem dX8_pairs_10 : decode cX8_pairs 10 = .ok (.iaload, 1) := by decide +kernel
theorem dX8_pairs_11 : decode cX8_pairs 11 = .ok (.if_icmp .ge 18, 3) := by decide +kernel
theorem dX8_pairs_14 : decode cX8_pairs 14 = .ok (.iload_n 1, 1) := by decide +kernel
theorem dX8_pairs_15 : decode cX8_pairs 15 = .ok (.aload_n 0, 1) := by decide +kernel
theorem dX8_pairs_16 : decode cX8_pairs 16 = .ok (.iconst 0, 1) := by decide +kernel
theorem dX8_pairs_17 : decode cX8_pairs 17 = .ok (.iload_n 2, 1) := by decide +kernel
theorem dX8_pairs_18 : decode cX8_pairs 18 = .ok (.invokevirtual 156, 3) := by decide +kernel
theorem dX8_pairs_21 : decode cX8_pairs 21 = .ok (.iadd, 1) := by decide +kernel
theorem dX8_pairs_22 : decode cX8_pairs 22 = .ok (.istore_n 1, 1) := by decide +kernel
theorem dX8_pairs_23 : decode cX8_pairs 23 = .ok (.iinc 2 1, 3) := by decide +kernel
theorem dX8_pairs_26 : decode cX8_pairs 26 = .ok (.goto (-22), 3) := by decide +kernel
theorem dX8_pairs_29 : decode cX8_pairs 29 = .ok (.iload_n 1, 1) := by decide +kernel
theorem dX8_pairs_30 : decode cX8_pairs 30 = .ok (.ireturn, 1) := by decide +kernel
theorem dX8_howMany_0 : decode cX8_howMany 0 = .ok (.iload_n 1, 1) := by decide +kernel
theorem dX8_howMany_1 : decode cX8_howMany 1 = .ok (.tableswitch 102 0 9 #[55, 55, 62, 67, 72, 77, 82, 87, 92, 97], 55) := by decide +kernel
theorem dX8_howMany_56 : decode cX8_howMany 56 = .ok (.aload_n 0, 1) := by decide +kernel
theorem dX8_howMany_57 : decode cX8_howMany 57 = .ok (.getfield 17, 3) := by decide +kernel
theorem dX8_howMany_60 : decode cX8_howMany 60 = .ok (.iload_n 1, 1) := by decide +kernel
theorem dX8_howMany_61 : decode cX8_howMany 61 = .ok (.iaload, 1) := by decide +kernel
theorem dX8_howMany_62 : decode cX8_howMany 62 = .ok (.ireturn, 1) := by decide +kernel
theorem dX8_howMany_63 : decode cX8_howMany 63 = .ok (.aload_n 0, 1) := by decide +kernel
theorem dX8_howMany_64 : decode cX8_howMany 64 = .ok (.getfield 134, 3) := by decide +kernel
theorem dX8_howMany_67 : decode cX8_howMany 67 = .ok (.ireturn, 1) := by decide +kernel
theorem dX8_howMany_68 : decode cX8_howMany 68 = .ok (.aload_n 0, 1) := by decide +kernel
theorem dX8_howMany_69 : decode cX8_howMany 69 = .ok (.getfield 9, 3) := by decide +kernel
theorem dX8_howMany_72 : decode cX8_howMany 72 = .ok (.ireturn, 1) := by decide +kernel
theorem dX8_howMany_73 : decode cX8_howMany 73 = .ok (.aload_n 0, 1) := by decide +kernel
theorem dX8_howMany_74 : decode cX8_howMany 74 = .ok (.invokevirtual 368, 3) := by decide +kernel
theorem dX8_howMany_77 : decode cX8_howMany 77 = .ok (.ireturn, 1) := by decide +kernel
theorem dX8_howMany_78 : decode cX8_howMany 78 = .ok (.aload_n 0, 1) := by decide +kernel
theorem dX8_howMany_79 : decode cX8_howMany 79 = .ok (.invokevirtual 371, 3) := by decide +kernel
theorem dX8_howMany_82 : decode cX8_howMany 82 = .ok (.ireturn, 1) := by decide +kernel
theorem dX8_howMany_83 : decode cX8_howMany 83 = .ok (.aload_n 0, 1) := by decide +kernel
theorem dX8_howMany_84 : decode cX8_howMany 84 = .ok (.getfield 140, 3) := by decide +kernel
theorem dX8_howMany_87 : decode cX8_howMany 87 = .ok (.ireturn, 1) := by decide +kernel
theorem dX8_howMany_88 : decode cX8_howMany 88 = .ok (.aload_n 0, 1) := by decide +kernel
theorem dX8_howMany_89 : decode cX8_howMany 89 = .ok (.getfield 146, 3) := by decide +kernel
theorem dX8_howMany_92 : decode cX8_howMany 92 = .ok (.ireturn, 1) := by decide +kernel
theorem dX8_howMany_93 : decode cX8_howMany 93 = .ok (.aload_n 0, 1) := by decide +kernel
theorem dX8_howMany_94 : decode cX8_howMany 94 = .ok (.getfield 103, 3) := by decide +kernel
theorem dX8_howMany_97 : decode cX8_howMany 97 = .ok (.ireturn, 1) := by decide +kernel
theorem dX8_howMany_98 : decode cX8_howMany 98 = .ok (.aload_n 0, 1) := by decide +kernel
theorem dX8_howMany_99 : decode cX8_howMany 99 = .ok (.getfield 143, 3) := by decide +kernel
theorem dX8_howMany_102 : decode cX8_howMany 102 = .ok (.ireturn, 1) := by decide +kernel
theorem dX8_howMany_103 : decode cX8_howMany 103 = .ok (.bipush (-102), 2) := by decide +kernel
theorem dX8_howMany_105 : decode cX8_howMany 105 = .ok (.ireturn, 1) := by decide +kernel
theorem dX8_count_0 : decode cX8_count 0 = .ok (.aload_n 0, 1) := by decide +kernel
theorem dX8_count_1 : decode cX8_count 1 = .ok (.iload_n 1, 1) := by decide +kernel
theorem dX8_count_2 : decode cX8_count 2 = .ok (.invokevirtual 374, 3) := by decide +kernel
theorem dX8_count_5 : decode cX8_count 5 = .ok (.ireturn, 1) := by decide +kernel
theorem dX8_mix_0 : decode cX8_mix 0 = .ok (.aload_n 0, 1) := by decide +kernel
theorem dX8_mix_1 : decode cX8_mix 1 = .ok (.ldc2_w 377, 3) := by decide +kernel
theorem dX8_mix_4 : decode cX8_mix 4 = .ok (.aload_n 0, 1) := by decide +kernel
theorem dX8_mix_5 : decode cX8_mix 5 = .ok (.getfield 379, 3) := by decide +kernel
theorem dX8_mix_8 : decode cX8_mix 8 = .ok (.lmul, 1) := by decide +kernel
theorem dX8_mix_9 : decode cX8_mix 9 = .ok (.lload_n 1, 1) := by decide +kernel
theorem dX8_mix_10 : decode cX8_mix 10 = .ok (.ladd, 1) := by decide +kernel
theorem dX8_mix_11 : decode cX8_mix 11 = .ok (.putfield 379, 3) := by decide +kernel
theorem dX8_mix_14 : decode cX8_mix 14 = .ok (.return_, 1) := by decide +kernel
theorem dX8_mixRows_0 : decode cX8_mixRows 0 = .ok (.iconst 0, 1) := by decide +kernel
theorem dX8_mixRows_1 : decode cX8_mixRows 1 = .ok (.istore_n 1, 1) := by decide +kernel
theorem dX8_mixRows_2 : decode cX8_mixRows 2 = .ok (.iload_n 1, 1) := by decide +kernel
theorem dX8_mixRows_3 : decode cX8_mixRows 3 = .ok (.iconst 2, 1) := by decide +kernel
theorem dX8_mixRows_4 : decode cX8_mixRows 4 = .ok (.if_icmp .ge 49, 3) := by decide +kernel
theorem dX8_mixRows_7 : decode cX8_mixRows 7 = .ok (.iconst 0, 1) := by decide +kernel
theorem dX8_mixRows_8 : decode cX8_mixRows 8 = .ok (.istore_n 2, 1) := by decide +kernel
theorem dX8_mixRows_9 : decode cX8_mixRows 9 = .ok (.iload_n 2, 1) := by decide +kernel
theorem dX8_mixRows_10 : decode cX8_mixRows 10 = .ok (.aload_n 0, 1) := by decide +kernel
theorem dX8_mixRows_11 : decode cX8_mixRows 11 = .ok (.getfield 17, 3) := by decide +kernel
theorem dX8_mixRows_14 : decode cX8_mixRows 14 = .ok (.iload_n 1, 1) := by decide +kernel
theorem dX8_mixRows_15 : decode cX8_mixRows 15 = .ok (.iaload, 1) := by decide +kernel
theorem dX8_mixRows_16 : decode cX8_mixRows 16 = .ok (.if_icmp .ge 31, 3) := by decide +kernel
theorem dX8_mixRows_19 : decode cX8_mixRows 19 = .ok (.aload_n 0, 1) := by decide +kernel
theorem dX8_mixRows_20 : decode cX8_mixRows 20 = .ok (.aload_n 0, 1) := by decide +kernel
theorem dX8_mixRows_21 : decode cX8_mixRows 21 = .ok (.iload_n 1, 1) := by decide +kernel
theorem dX8_mixRows_22 : decode cX8_mixRows 22 = .ok (.iload_n 2, 1) := by decide +kernel
theorem dX8_mixRows_23 : decode cX8_mixRows 23 = .ok (.invokevirtual 152, 3) := by decide +kernel
theorem dX8_mixRows_26 : decode cX8_mixRows 26 = .ok (.i2l, 1) := by decide +kernel
theorem dX8_mixRows_27 : decode cX8_mixRows 27 = .ok (.invokevirtual 382, 3) := by decide +kernel
theorem dX8_mixRows_30 : decode cX8_mixRows 30 = .ok (.aload_n 0, 1) := by decide +kernel
theorem dX8_mixRows_31 : decode cX8_mixRows 31 = .ok (.aload_n 0, 1) := by decide +kernel
theorem dX8_mixRows_32 : decode cX8_mixRows 32 = .ok (.iload_n 1, 1) := by decide +kernel
theorem dX8_mixRows_33 : decode cX8_mixRows 33 = .ok (.iload_n 2, 1) := by decide +kernel
theorem dX8_mixRows_34 : decode cX8_mixRows 34 = .ok (.invokevirtual 156, 3) := by decide +kernel
theorem dX8_mixRows_37 : decode cX8_mixRows 37 = .ok (.i2l, 1) := by decide +kernel
theorem dX8_mixRows_38 : decode cX8_mixRows 38 = .ok (.invokevirtual 382, 3) := by decide +kernel
theorem dX8_mixRows_41 : decode cX8_mixRows 41 = .ok (.iinc 2 1, 3) := by decide +kernel
theorem dX8_mixRows_44 : decode cX8_mixRows 44 = .ok (.goto (-35), 3) := by decide +kernel
theorem dX8_mixRows_47 : decode cX8_mixRows 47 = .ok (.iinc 1 1, 3) := by decide +kernel
theorem dX8_mixRows_50 : decode cX8_mixRows 50 = .ok (.goto (-48), 3) := by decide +kernel
theorem dX8_mixRows_53 : decode cX8_mixRows 53 = .ok (.return_, 1) := by decide +kernel
theorem dX8_mixTold_0 : decode cX8_mixTold 0 = .ok (.iconst 0, 1) := by decide +kernel
theorem dX8_mixTold_1 : decode cX8_mixTold 1 = .ok (.istore_n 1, 1) := by decide +kernel
theorem dX8_mixTold_2 : decode cX8_mixTold 2 = .ok (.iload_n 1, 1) := by decide +kernel
theorem dX8_mixTold_3 : decode cX8_mixTold 3 = .ok (.bipush 10, 2) := by decide +kernel
theorem dX8_mixTold_5 : decode cX8_mixTold 5 = .ok (.if_icmp .ge 20, 3) := by decide +kernel
theorem dX8_mixTold_8 : decode cX8_mixTold 8 = .ok (.aload_n 0, 1) := by decide +kernel
theorem dX8_mixTold_9 : decode cX8_mixTold 9 = .ok (.aload_n 0, 1) := by decide +kernel
theorem dX8_mixTold_10 : decode cX8_mixTold 10 = .ok (.getfield 66, 3) := by decide +kernel
theorem dX8_mixTold_13 : decode cX8_mixTold 13 = .ok (.iload_n 1, 1) := by decide +kernel
theorem dX8_mixTold_14 : decode cX8_mixTold 14 = .ok (.iaload, 1) := by decide +kernel
theorem dX8_mixTold_15 : decode cX8_mixTold 15 = .ok (.i2l, 1) := by decide +kernel
theorem dX8_mixTold_16 : decode cX8_mixTold 16 = .ok (.invokevirtual 382, 3) := by decide +kernel
theorem dX8_mixTold_19 : decode cX8_mixTold 19 = .ok (.iinc 1 1, 3) := by decide +kernel
theorem dX8_mixTold_22 : decode cX8_mixTold 22 = .ok (.goto (-20), 3) := by decide +kernel
theorem dX8_mixTold_25 : decode cX8_mixTold 25 = .ok (.iconst 0, 1) := by decide +kernel
theorem dX8_mixTold_26 : decode cX8_mixTold 26 = .ok (.istore_n 1, 1) := by decide +kernel
theorem dX8_mixTold_27 : decode cX8_mixTold 27 = .ok (.iload_n 1, 1) := by decide +kernel
theorem dX8_mixTold_28 : decode cX8_mixTold 28 = .ok (.aload_n 0, 1) := by decide +kernel
theorem dX8_mixTold_29 : decode cX8_mixTold 29 = .ok (.getfield 298, 3) := by decide +kernel
theorem dX8_mixTold_32 : decode cX8_mixTold 32 = .ok (.if_icmp .ge 31, 3) := by decide +kernel
theorem dX8_mixTold_35 : decode cX8_mixTold 35 = .ok (.aload_n 0, 1) := by decide +kernel
theorem dX8_mixTold_36 : decode cX8_mixTold 36 = .ok (.aload_n 0, 1) := by decide +kernel
theorem dX8_mixTold_37 : decode cX8_mixTold 37 = .ok (.getfield 69, 3) := by decide +kernel
theorem dX8_mixTold_40 : decode cX8_mixTold 40 = .ok (.iload_n 1, 1) := by decide +kernel
theorem dX8_mixTold_41 : decode cX8_mixTold 41 = .ok (.iaload, 1) := by decide +kernel
theorem dX8_mixTold_42 : decode cX8_mixTold 42 = .ok (.i2l, 1) := by decide +kernel
theorem dX8_mixTold_43 : decode cX8_mixTold 43 = .ok (.invokevirtual 382, 3) := by decide +kernel
theorem dX8_mixTold_46 : decode cX8_mixTold 46 = .ok (.aload_n 0, 1) := by decide +kernel
theorem dX8_mixTold_47 : decode cX8_mixTold 47 = .ok (.aload_n 0, 1) := by decide +kernel
theorem dX8_mixTold_48 : decode cX8_mixTold 48 = .ok (.getfield 72, 3) := by decide +kernel
theorem dX8_mixTold_51 : decode cX8_mixTold 51 = .ok (.iload_n 1, 1) := by decide +kernel
theorem dX8_mixTold_52 : decode cX8_mixTold 52 = .ok (.iaload, 1) := by decide +kernel
theorem dX8_mixTold_53 : decode cX8_mixTold 53 = .ok (.i2l, 1) := by decide +kernel
theorem dX8_mixTold_54 : decode cX8_mixTold 54 = .ok (.invokevirtual 382, 3) := by decide +kernel
theorem dX8_mixTold_57 : decode cX8_mixTold 57 = .ok (.iinc 1 1, 3) := by decide +kernel
theorem dX8_mixTold_60 : decode cX8_mixTold 60 = .ok (.goto (-33), 3) := by decide +kernel
theorem dX8_mixTold_63 : decode cX8_mixTold 63 = .ok (.iconst 0, 1) := by decide +kernel
theorem dX8_mixTold_64 : decode cX8_mixTold 64 = .ok (.istore_n 1, 1) := by decide +kernel
theorem dX8_mixTold_65 : decode cX8_mixTold 65 = .ok (.iload_n 1, 1) := by decide +kernel
theorem dX8_mixTold_66 : decode cX8_mixTold 66 = .ok (.aload_n 0, 1) := by decide +kernel
theorem dX8_mixTold_67 : decode cX8_mixTold 67 = .ok (.getfield 301, 3) := by decide +kernel
theorem dX8_mixTold_70 : decode cX8_mixTold 70 = .ok (.if_icmp .ge 33, 3) := by decide +kernel
theorem dX8_mixTold_73 : decode cX8_mixTold 73 = .ok (.iconst 0, 1) := by decide +kernel
theorem dX8_mixTold_74 : decode cX8_mixTold 74 = .ok (.istore_n 2, 1) := by decide +kernel
theorem dX8_mixTold_75 : decode cX8_mixTold 75 = .ok (.iload_n 2, 1) := by decide +kernel
theorem dX8_mixTold_76 : decode cX8_mixTold 76 = .ok (.iconst 3, 1) := by decide +kernel
theorem dX8_mixTold_77 : decode cX8_mixTold 77 = .ok (.if_icmp .ge 20, 3) := by decide +kernel
theorem dX8_mixTold_80 : decode cX8_mixTold 80 = .ok (.aload_n 0, 1) := by decide +kernel
theorem dX8_mixTold_81 : decode cX8_mixTold 81 = .ok (.aload_n 0, 1) := by decide +kernel
theorem dX8_mixTold_82 : decode cX8_mixTold 82 = .ok (.iload_n 1, 1) := by decide +kernel
theorem dX8_mixTold_83 : decode cX8_mixTold 83 = .ok (.iload_n 2, 1) := by decide +kernel
theorem dX8_mixTold_84 : decode cX8_mixTold 84 = .ok (.invokevirtual 313, 3) := by decide +kernel
theorem dX8_mixTold_87 : decode cX8_mixTold 87 = .ok (.i2l, 1) := by decide +kernel
theorem dX8_mixTold_88 : decode cX8_mixTold 88 = .ok (.invokevirtual 382, 3) := by decide +kernel
theorem dX8_mixTold_91 : decode cX8_mixTold 91 = .ok (.iinc 2 1, 3) := by decide +kernel
theorem dX8_mixTold_94 : decode cX8_mixTold 94 = .ok (.goto (-19), 3) := by decide +kernel
theorem dX8_mixTold_97 : decode cX8_mixTold 97 = .ok (.iinc 1 1, 3) := by decide +kernel
theorem dX8_mixTold_100 : decode cX8_mixTold 100 = .ok (.goto (-35), 3) := by decide +kernel
theorem dX8_mixTold_103 : decode cX8_mixTold 103 = .ok (.return_, 1) := by decide +kernel
theorem dX8_digest_0 : decode cX8_digest 0 = .ok (.aload_n 0, 1) := by decide +kernel
theorem dX8_digest_1 : decode cX8_digest 1 = .ok (.ldc2_w 386, 3) := by decide +kernel
theorem dX8_digest_4 : decode cX8_digest 4 = .ok (.putfield 379, 3) := by decide +kernel
theorem dX8_digest_7 : decode cX8_digest 7 = .ok (.aload_n 0, 1) := by decide +kernel
theorem dX8_digest_8 : decode cX8_digest 8 = .ok (.invokevirtual 388, 3) := by decide +kernel
theorem dX8_digest_11 : decode cX8_digest 11 = .ok (.aload_n 0, 1) := by decide +kernel
theorem dX8_digest_12 : decode cX8_digest 12 = .ok (.invokevirtual 391, 3) := by decide +kernel
theorem dX8_digest_15 : decode cX8_digest 15 = .ok (.aload_n 0, 1) := by decide +kernel
theorem dX8_digest_16 : decode cX8_digest 16 = .ok (.getfield 143, 3) := by decide +kernel
theorem dX8_digest_19 : decode cX8_digest 19 = .ok (.ifCond .le 12, 3) := by decide +kernel
theorem dX8_digest_22 : decode cX8_digest 22 = .ok (.aload_n 0, 1) := by decide +kernel
theorem dX8_digest_23 : decode cX8_digest 23 = .ok (.aload_n 0, 1) := by decide +kernel
theorem dX8_digest_24 : decode cX8_digest 24 = .ok (.invokevirtual 317, 3) := by decide +kernel
theorem dX8_digest_27 : decode cX8_digest 27 = .ok (.i2l, 1) := by decide +kernel
theorem dX8_digest_28 : decode cX8_digest 28 = .ok (.invokevirtual 382, 3) := by decide +kernel
theorem dX8_digest_31 : decode cX8_digest 31 = .ok (.aload_n 0, 1) := by decide +kernel
theorem dX8_digest_32 : decode cX8_digest 32 = .ok (.aload_n 0, 1) := by decide +kernel
theorem dX8_digest_33 : decode cX8_digest 33 = .ok (.invokevirtual 323, 3) := by decide +kernel
theorem dX8_digest_36 : decode cX8_digest 36 = .ok (.i2l, 1) := by decide +kernel
theorem dX8_digest_37 : decode cX8_digest 37 = .ok (.invokevirtual 382, 3) := by decide +kernel
theorem dX8_digest_40 : decode cX8_digest 40 = .ok (.aload_n 0, 1) := by decide +kernel
theorem dX8_digest_41 : decode cX8_digest 41 = .ok (.aload_n 0, 1) := by decide +kernel
theorem dX8_digest_42 : decode cX8_digest 42 = .ok (.invokevirtual 326, 3) := by decide +kernel
theorem dX8_digest_45 : decode cX8_digest 45 = .ok (.i2l, 1) := by decide +kernel
theorem dX8_digest_46 : decode cX8_digest 46 = .ok (.invokevirtual 382, 3) := by decide +kernel
theorem dX8_digest_49 : decode cX8_digest 49 = .ok (.iconst 0, 1) := by decide +kernel
theorem dX8_digest_50 : decode cX8_digest 50 = .ok (.istore_n 1, 1) := by decide +kernel
theorem dX8_digest_51 : decode cX8_digest 51 = .ok (.iload_n 1, 1) := by decide +kernel
theorem dX8_digest_52 : decode cX8_digest 52 = .ok (.aload_n 0, 1) := by decide +kernel
theorem dX8_digest_53 : decode cX8_digest 53 = .ok (.getfield 103, 3) := by decide +kernel
theorem dX8_digest_56 : decode cX8_digest 56 = .ok (.if_icmp .ge 20, 3) := by decide +kernel
theorem dX8_digest_59 : decode cX8_digest 59 = .ok (.aload_n 0, 1) := by decide +kernel
theorem dX8_digest_60 : decode cX8_digest 60 = .ok (.aload_n 0, 1) := by decide +kernel
theorem dX8_digest_61 : decode cX8_digest 61 = .ok (.getfield 26, 3) := by decide +kernel
theorem dX8_digest_64 : decode cX8_digest 64 = .ok (.iload_n 1, 1) := by decide +kernel
theorem dX8_digest_65 : decode cX8_digest 65 = .ok (.baload, 1) := by decide +kernel
theorem dX8_digest_66 : decode cX8_digest 66 = .ok (.i2l, 1) := by decide +kernel
theorem dX8_digest_67 : decode cX8_digest 67 = .ok (.invokevirtual 382, 3) := by decide +kernel
theorem dX8_digest_70 : decode cX8_digest 70 = .ok (.iinc 1 1, 3) := by decide +kernel
theorem dX8_digest_73 : decode cX8_digest 73 = .ok (.goto (-22), 3) := by decide +kernel
theorem dX8_digest_76 : decode cX8_digest 76 = .ok (.iconst 0, 1) := by decide +kernel
theorem dX8_digest_77 : decode cX8_digest 77 = .ok (.istore_n 1, 1) := by decide +kernel
theorem dX8_digest_78 : decode cX8_digest 78 = .ok (.iload_n 1, 1) := by decide +kernel
theorem dX8_digest_79 : decode cX8_digest 79 = .ok (.bipush 10, 2) := by decide +kernel
theorem dX8_digest_81 : decode cX8_digest 81 = .ok (.if_icmp .ge 19, 3) := by decide +kernel
theorem dX8_digest_84 : decode cX8_digest 84 = .ok (.aload_n 0, 1) := by decide +kernel
theorem dX8_digest_85 : decode cX8_digest 85 = .ok (.aload_n 0, 1) := by decide +kernel
theorem dX8_digest_86 : decode cX8_digest 86 = .ok (.iload_n 1, 1) := by decide +kernel
theorem dX8_digest_87 : decode cX8_digest 87 = .ok (.invokevirtual 374, 3) := by decide +kernel
theorem dX8_digest_90 : decode cX8_digest 90 = .ok (.i2l, 1) := by decide +kernel
theorem dX8_digest_91 : decode cX8_digest 91 = .ok (.invokevirtual 382, 3) := by decide +kernel
theorem dX8_digest_94 : decode cX8_digest 94 = .ok (.iinc 1 1, 3) := by decide +kernel
theorem dX8_digest_97 : decode cX8_digest 97 = .ok (.goto (-19), 3) := by decide +kernel
theorem dX8_digest_100 : decode cX8_digest 100 = .ok (.aload_n 0, 1) := by decide +kernel
theorem dX8_digest_101 : decode cX8_digest 101 = .ok (.getfield 379, 3) := by decide +kernel
theorem dX8_digest_104 : decode cX8_digest 104 = .ok (.lreturn, 1) := by decide +kernel
