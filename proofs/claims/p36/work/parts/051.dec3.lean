theorem dL_asked_112 : decode cL_asked 112 = .ok (.ireturn, 1) := by decide +kernel
theorem dL_asked_113 : decode cL_asked 113 = .ok (.aload_n 0, 1) := by decide +kernel
theorem dL_asked_114 : decode cL_asked 114 = .ok (.iload_n 2, 1) := by decide +kernel
theorem dL_asked_115 : decode cL_asked 115 = .ok (.iload_n 3, 1) := by decide +kernel
theorem dL_asked_116 : decode cL_asked 116 = .ok (.invokevirtual 92, 3) := by decide +kernel
theorem dL_asked_119 : decode cL_asked 119 = .ok (.invokestatic 43, 3) := by decide +kernel
theorem dL_asked_122 : decode cL_asked 122 = .ok (.ireturn, 1) := by decide +kernel
theorem dL_asked_123 : decode cL_asked 123 = .ok (.aload_n 0, 1) := by decide +kernel
theorem dL_asked_124 : decode cL_asked 124 = .ok (.iload_n 2, 1) := by decide +kernel
theorem dL_asked_125 : decode cL_asked 125 = .ok (.invokevirtual 95, 3) := by decide +kernel
theorem dL_asked_128 : decode cL_asked 128 = .ok (.invokestatic 43, 3) := by decide +kernel
theorem dL_asked_131 : decode cL_asked 131 = .ok (.ireturn, 1) := by decide +kernel
theorem dL_asked_132 : decode cL_asked 132 = .ok (.aload_n 0, 1) := by decide +kernel
theorem dL_asked_133 : decode cL_asked 133 = .ok (.iload_n 2, 1) := by decide +kernel
theorem dL_asked_134 : decode cL_asked 134 = .ok (.iload_n 3, 1) := by decide +kernel
theorem dL_asked_135 : decode cL_asked 135 = .ok (.invokevirtual 98, 3) := by decide +kernel
theorem dL_asked_138 : decode cL_asked 138 = .ok (.ireturn, 1) := by decide +kernel
theorem dL_asked_139 : decode cL_asked 139 = .ok (.aload_n 0, 1) := by decide +kernel
theorem dL_asked_140 : decode cL_asked 140 = .ok (.iload_n 2, 1) := by decide +kernel
theorem dL_asked_141 : decode cL_asked 141 = .ok (.invokevirtual 101, 3) := by decide +kernel
theorem dL_asked_144 : decode cL_asked 144 = .ok (.ireturn, 1) := by decide +kernel
theorem dL_asked_145 : decode cL_asked 145 = .ok (.aload_n 0, 1) := by decide +kernel
theorem dL_asked_146 : decode cL_asked 146 = .ok (.iload_n 2, 1) := by decide +kernel
theorem dL_asked_147 : decode cL_asked 147 = .ok (.invokevirtual 104, 3) := by decide +kernel
theorem dL_asked_150 : decode cL_asked 150 = .ok (.ireturn, 1) := by decide +kernel
theorem dL_asked_151 : decode cL_asked 151 = .ok (.aload_n 0, 1) := by decide +kernel
theorem dL_asked_152 : decode cL_asked 152 = .ok (.iload_n 2, 1) := by decide +kernel
theorem dL_asked_153 : decode cL_asked 153 = .ok (.invokevirtual 107, 3) := by decide +kernel
theorem dL_asked_156 : decode cL_asked 156 = .ok (.l2i, 1) := by decide +kernel
theorem dL_asked_157 : decode cL_asked 157 = .ok (.ireturn, 1) := by decide +kernel
theorem dL_asked_158 : decode cL_asked 158 = .ok (.aload_n 0, 1) := by decide +kernel
theorem dL_asked_159 : decode cL_asked 159 = .ok (.iload_n 2, 1) := by decide +kernel
theorem dL_asked_160 : decode cL_asked 160 = .ok (.invokevirtual 111, 3) := by decide +kernel
theorem dL_asked_163 : decode cL_asked 163 = .ok (.ireturn, 1) := by decide +kernel
theorem dL_deed_0 : decode cL_deed 0 = .ok (.iload_n 1, 1) := by decide +kernel
theorem dL_deed_1 : decode cL_deed 1 = .ok (.bipush 20, 2) := by decide +kernel
theorem dL_deed_3 : decode cL_deed 3 = .ok (.if_icmp .ge 17, 3) := by decide +kernel
theorem dL_deed_6 : decode cL_deed 6 = .ok (.aload_n 0, 1) := by decide +kernel
theorem dL_deed_7 : decode cL_deed 7 = .ok (.iload_n 1, 1) := by decide +kernel
theorem dL_deed_8 : decode cL_deed 8 = .ok (.iload_n 2, 1) := by decide +kernel
theorem dL_deed_9 : decode cL_deed 9 = .ok (.iload_n 3, 1) := by decide +kernel
theorem dL_deed_10 : decode cL_deed 10 = .ok (.iload 4, 2) := by decide +kernel
theorem dL_deed_12 : decode cL_deed 12 = .ok (.iload 5, 2) := by decide +kernel
theorem dL_deed_14 : decode cL_deed 14 = .ok (.invokestatic 114, 3) := by decide +kernel
theorem dL_deed_17 : decode cL_deed 17 = .ok (.goto 14, 3) := by decide +kernel
theorem dL_deed_20 : decode cL_deed 20 = .ok (.aload_n 0, 1) := by decide +kernel
theorem dL_deed_21 : decode cL_deed 21 = .ok (.iload_n 1, 1) := by decide +kernel
theorem dL_deed_22 : decode cL_deed 22 = .ok (.iload_n 2, 1) := by decide +kernel
theorem dL_deed_23 : decode cL_deed 23 = .ok (.iload_n 3, 1) := by decide +kernel
theorem dL_deed_24 : decode cL_deed 24 = .ok (.iload 4, 2) := by decide +kernel
theorem dL_deed_26 : decode cL_deed 26 = .ok (.iload 5, 2) := by decide +kernel
theorem dL_deed_28 : decode cL_deed 28 = .ok (.invokestatic 118, 3) := by decide +kernel
theorem dL_deed_31 : decode cL_deed 31 = .ok (.ireturn, 1) := by decide +kernel
theorem dL_deed_32 : decode cL_deed 32 = .ok (.astore 6, 2) := by decide +kernel
theorem dL_deed_34 : decode cL_deed 34 = .ok (.sipush (-20001), 3) := by decide +kernel
theorem dL_deed_37 : decode cL_deed 37 = .ok (.ireturn, 1) := by decide +kernel
theorem dL_deed_38 : decode cL_deed 38 = .ok (.astore 6, 2) := by decide +kernel
theorem dL_deed_40 : decode cL_deed 40 = .ok (.sipush (-20002), 3) := by decide +kernel
theorem dL_deed_43 : decode cL_deed 43 = .ok (.ireturn, 1) := by decide +kernel
theorem dL_deed_44 : decode cL_deed 44 = .ok (.astore 6, 2) := by decide +kernel
theorem dL_deed_46 : decode cL_deed 46 = .ok (.sipush (-20004), 3) := by decide +kernel
theorem dL_deed_49 : decode cL_deed 49 = .ok (.ireturn, 1) := by decide +kernel
theorem dL_deed_50 : decode cL_deed 50 = .ok (.astore 6, 2) := by decide +kernel
theorem dL_deed_52 : decode cL_deed 52 = .ok (.sipush (-20005), 3) := by decide +kernel
theorem dL_deed_55 : decode cL_deed 55 = .ok (.ireturn, 1) := by decide +kernel
theorem dL_deed_56 : decode cL_deed 56 = .ok (.astore 6, 2) := by decide +kernel
theorem dL_deed_58 : decode cL_deed 58 = .ok (.sipush (-20003), 3) := by decide +kernel
theorem dL_deed_61 : decode cL_deed 61 = .ok (.ireturn, 1) := by decide +kernel
theorem dL_ask_0 : decode cL_ask 0 = .ok (.aload_n 0, 1) := by decide +kernel
theorem dL_ask_1 : decode cL_ask 1 = .ok (.iload_n 1, 1) := by decide +kernel
theorem dL_ask_2 : decode cL_ask 2 = .ok (.iload_n 2, 1) := by decide +kernel
theorem dL_ask_3 : decode cL_ask 3 = .ok (.iload_n 3, 1) := by decide +kernel
theorem dL_ask_4 : decode cL_ask 4 = .ok (.iconst 0, 1) := by decide +kernel
theorem dL_ask_5 : decode cL_ask 5 = .ok (.iconst 0, 1) := by decide +kernel
theorem dL_ask_6 : decode cL_ask 6 = .ok (.invokestatic 131, 3) := by decide +kernel
theorem dL_ask_9 : decode cL_ask 9 = .ok (.ireturn, 1) := by decide +kernel
theorem dL_build_0 : decode cL_build 0 = .ok (.iconst 0, 1) := by decide +kernel
theorem dL_build_1 : decode cL_build 1 = .ok (.istore_n 2, 1) := by decide +kernel
theorem dL_build_2 : decode cL_build 2 = .ok (.iload_n 2, 1) := by decide +kernel
theorem dL_build_3 : decode cL_build 3 = .ok (.bipush 30, 2) := by decide +kernel
theorem dL_build_5 : decode cL_build 5 = .ok (.if_icmp .ge 47, 3) := by decide +kernel
theorem dL_build_8 : decode cL_build 8 = .ok (.aload_n 0, 1) := by decide +kernel
theorem dL_build_9 : decode cL_build 9 = .ok (.iconst 0, 1) := by decide +kernel
theorem dL_build_10 : decode cL_build 10 = .ok (.aload_n 1, 1) := by decide +kernel
theorem dL_build_11 : decode cL_build 11 = .ok (.iconst 3, 1) := by decide +kernel
theorem dL_build_12 : decode cL_build 12 = .ok (.iload_n 2, 1) := by decide +kernel
theorem dL_build_13 : decode cL_build 13 = .ok (.imul, 1) := by decide +kernel
theorem dL_build_14 : decode cL_build 14 = .ok (.bipush 20, 2) := by decide +kernel
theorem dL_build_16 : decode cL_build 16 = .ok (.invokestatic 134, 3) := by decide +kernel
theorem dL_build_19 : decode cL_build 19 = .ok (.aload_n 1, 1) := by decide +kernel
theorem dL_build_20 : decode cL_build 20 = .ok (.iconst 3, 1) := by decide +kernel
theorem dL_build_21 : decode cL_build 21 = .ok (.iload_n 2, 1) := by decide +kernel
theorem dL_build_22 : decode cL_build 22 = .ok (.imul, 1) := by decide +kernel
theorem dL_build_23 : decode cL_build 23 = .ok (.iconst 1, 1) := by decide +kernel
theorem dL_build_24 : decode cL_build 24 = .ok (.iadd, 1) := by decide +kernel
theorem dL_build_25 : decode cL_build 25 = .ok (.bipush 20, 2) := by decide +kernel
theorem dL_build_27 : decode cL_build 27 = .ok (.invokestatic 134, 3) := by decide +kernel
theorem dL_build_30 : decode cL_build 30 = .ok (.aload_n 1, 1) := by decide +kernel
theorem dL_build_31 : decode cL_build 31 = .ok (.iconst 3, 1) := by decide +kernel
theorem dL_build_32 : decode cL_build 32 = .ok (.iload_n 2, 1) := by decide +kernel
theorem dL_build_33 : decode cL_build 33 = .ok (.imul, 1) := by decide +kernel
theorem dL_build_34 : decode cL_build 34 = .ok (.iconst 2, 1) := by decide +kernel
theorem dL_build_35 : decode cL_build 35 = .ok (.iadd, 1) := by decide +kernel
theorem dL_build_36 : decode cL_build 36 = .ok (.bipush 100, 2) := by decide +kernel
theorem dL_build_38 : decode cL_build 38 = .ok (.invokestatic 134, 3) := by decide +kernel
theorem dL_build_41 : decode cL_build 41 = .ok (.iconst 0, 1) := by decide +kernel
theorem dL_build_42 : decode cL_build 42 = .ok (.invokestatic 131, 3) := by decide +kernel
theorem dL_build_45 : decode cL_build 45 = .ok (.pop, 1) := by decide +kernel
theorem dL_build_46 : decode cL_build 46 = .ok (.iinc 2 1, 3) := by decide +kernel
theorem dL_build_49 : decode cL_build 49 = .ok (.goto (-47), 3) := by decide +kernel
theorem dL_build_52 : decode cL_build 52 = .ok (.iconst 0, 1) := by decide +kernel
theorem dL_build_53 : decode cL_build 53 = .ok (.istore_n 2, 1) := by decide +kernel
theorem dL_build_54 : decode cL_build 54 = .ok (.iload_n 2, 1) := by decide +kernel
theorem dL_build_55 : decode cL_build 55 = .ok (.bipush 10, 2) := by decide +kernel
theorem dL_build_57 : decode cL_build 57 = .ok (.if_icmp .ge 60, 3) := by decide +kernel
theorem dL_build_60 : decode cL_build 60 = .ok (.aload_n 0, 1) := by decide +kernel
theorem dL_build_61 : decode cL_build 61 = .ok (.iconst 1, 1) := by decide +kernel
theorem dL_build_62 : decode cL_build 62 = .ok (.aload_n 1, 1) := by decide +kernel
theorem dL_build_63 : decode cL_build 63 = .ok (.bipush 100, 2) := by decide +kernel
theorem dL_build_65 : decode cL_build 65 = .ok (.iconst 3, 1) := by decide +kernel
theorem dL_build_66 : decode cL_build 66 = .ok (.iload_n 2, 1) := by decide +kernel
theorem dL_build_67 : decode cL_build 67 = .ok (.imul, 1) := by decide +kernel
theorem dL_build_68 : decode cL_build 68 = .ok (.iadd, 1) := by decide +kernel
theorem dL_build_69 : decode cL_build 69 = .ok (.bipush 20, 2) := by decide +kernel
theorem dL_build_71 : decode cL_build 71 = .ok (.invokestatic 134, 3) := by decide +kernel
theorem dL_build_74 : decode cL_build 74 = .ok (.aload_n 1, 1) := by decide +kernel
theorem dL_build_75 : decode cL_build 75 = .ok (.bipush 101, 2) := by decide +kernel
theorem dL_build_77 : decode cL_build 77 = .ok (.iconst 3, 1) := by decide +kernel
theorem dL_build_78 : decode cL_build 78 = .ok (.iload_n 2, 1) := by decide +kernel
theorem dL_build_79 : decode cL_build 79 = .ok (.imul, 1) := by decide +kernel
theorem dL_build_80 : decode cL_build 80 = .ok (.iadd, 1) := by decide +kernel
theorem dL_build_81 : decode cL_build 81 = .ok (.aload_n 1, 1) := by decide +kernel
theorem dL_build_82 : decode cL_build 82 = .ok (.bipush 99, 2) := by decide +kernel
theorem dL_build_84 : decode cL_build 84 = .ok (.bipush 20, 2) := by decide +kernel
theorem dL_build_86 : decode cL_build 86 = .ok (.invokestatic 134, 3) := by decide +kernel
theorem dL_build_89 : decode cL_build 89 = .ok (.iconst 1, 1) := by decide +kernel
theorem dL_build_90 : decode cL_build 90 = .ok (.iadd, 1) := by decide +kernel
theorem dL_build_91 : decode cL_build 91 = .ok (.invokestatic 134, 3) := by decide +kernel
theorem dL_build_94 : decode cL_build 94 = .ok (.aload_n 1, 1) := by decide +kernel
theorem dL_build_95 : decode cL_build 95 = .ok (.bipush 102, 2) := by decide +kernel
theorem dL_build_97 : decode cL_build 97 = .ok (.iconst 3, 1) := by decide +kernel
theorem dL_build_98 : decode cL_build 98 = .ok (.iload_n 2, 1) := by decide +kernel
theorem dL_build_99 : decode cL_build 99 = .ok (.imul, 1) := by decide +kernel
theorem dL_build_100 : decode cL_build 100 = .ok (.iadd, 1) := by decide +kernel
theorem dL_build_101 : decode cL_build 101 = .ok (.bipush 100, 2) := by decide +kernel
theorem dL_build_103 : decode cL_build 103 = .ok (.invokestatic 134, 3) := by decide +kernel
theorem dL_build_106 : decode cL_build 106 = .ok (.iconst 0, 1) := by decide +kernel
theorem dL_build_107 : decode cL_build 107 = .ok (.invokestatic 131, 3) := by decide +kernel
theorem dL_build_110 : decode cL_build 110 = .ok (.pop, 1) := by decide +kernel
theorem dL_build_111 : decode cL_build 111 = .ok (.iinc 2 1, 3) := by decide +kernel
theorem dL_build_114 : decode cL_build 114 = .ok (.goto (-60), 3) := by decide +kernel
theorem dL_build_117 : decode cL_build 117 = .ok (.iconst 0, 1) := by decide +kernel
theorem dL_build_118 : decode cL_build 118 = .ok (.istore_n 2, 1) := by decide +kernel
theorem dL_build_119 : decode cL_build 119 = .ok (.iload_n 2, 1) := by decide +kernel
theorem dL_build_120 : decode cL_build 120 = .ok (.bipush 6, 2) := by decide +kernel
theorem dL_build_122 : decode cL_build 122 = .ok (.if_icmp .ge 108, 3) := by decide +kernel
theorem dL_build_125 : decode cL_build 125 = .ok (.aload_n 1, 1) := by decide +kernel
theorem dL_build_126 : decode cL_build 126 = .ok (.sipush 140, 3) := by decide +kernel
theorem dL_build_129 : decode cL_build 129 = .ok (.iconst 3, 1) := by decide +kernel
theorem dL_build_130 : decode cL_build 130 = .ok (.iload_n 2, 1) := by decide +kernel
theorem dL_build_131 : decode cL_build 131 = .ok (.imul, 1) := by decide +kernel
theorem dL_build_132 : decode cL_build 132 = .ok (.iadd, 1) := by decide +kernel
theorem dL_build_133 : decode cL_build 133 = .ok (.bipush 10, 2) := by decide +kernel
theorem dL_build_135 : decode cL_build 135 = .ok (.invokestatic 134, 3) := by decide +kernel
theorem dL_build_138 : decode cL_build 138 = .ok (.istore_n 3, 1) := by decide +kernel
theorem dL_build_139 : decode cL_build 139 = .ok (.aload_n 0, 1) := by decide +kernel
theorem dL_build_140 : decode cL_build 140 = .ok (.iconst 2, 1) := by decide +kernel
theorem dL_build_141 : decode cL_build 141 = .ok (.iload_n 3, 1) := by decide +kernel
theorem dL_build_142 : decode cL_build 142 = .ok (.iload_n 3, 1) := by decide +kernel
theorem dL_build_143 : decode cL_build 143 = .ok (.iconst 1, 1) := by decide +kernel
theorem dL_build_144 : decode cL_build 144 = .ok (.iadd, 1) := by decide +kernel
theorem dL_build_145 : decode cL_build 145 = .ok (.aload_n 1, 1) := by decide +kernel
theorem dL_build_146 : decode cL_build 146 = .ok (.sipush 141, 3) := by decide +kernel
theorem dL_build_149 : decode cL_build 149 = .ok (.iconst 3, 1) := by decide +kernel
theorem dL_build_150 : decode cL_build 150 = .ok (.iload_n 2, 1) := by decide +kernel
theorem dL_build_151 : decode cL_build 151 = .ok (.imul, 1) := by decide +kernel
theorem dL_build_152 : decode cL_build 152 = .ok (.iadd, 1) := by decide +kernel
theorem dL_build_153 : decode cL_build 153 = .ok (.bipush 9, 2) := by decide +kernel
theorem dL_build_155 : decode cL_build 155 = .ok (.invokestatic 134, 3) := by decide +kernel
theorem dL_build_158 : decode cL_build 158 = .ok (.iadd, 1) := by decide +kernel
theorem dL_build_159 : decode cL_build 159 = .ok (.bipush 10, 2) := by decide +kernel
theorem dL_build_161 : decode cL_build 161 = .ok (.irem, 1) := by decide +kernel
theorem dL_build_162 : decode cL_build 162 = .ok (.sipush 200, 3) := by decide +kernel
theorem dL_build_165 : decode cL_build 165 = .ok (.aload_n 1, 1) := by decide +kernel
theorem dL_build_166 : decode cL_build 166 = .ok (.sipush 142, 3) := by decide +kernel
theorem dL_build_169 : decode cL_build 169 = .ok (.iconst 3, 1) := by decide +kernel
theorem dL_build_170 : decode cL_build 170 = .ok (.iload_n 2, 1) := by decide +kernel
theorem dL_build_171 : decode cL_build 171 = .ok (.imul, 1) := by decide +kernel
theorem dL_build_172 : decode cL_build 172 = .ok (.iadd, 1) := by decide +kernel
theorem dL_build_173 : decode cL_build 173 = .ok (.sipush 301, 3) := by decide +kernel
theorem dL_build_176 : decode cL_build 176 = .ok (.invokestatic 134, 3) := by decide +kernel
theorem dL_build_179 : decode cL_build 179 = .ok (.iadd, 1) := by decide +kernel
theorem dL_build_180 : decode cL_build 180 = .ok (.aload_n 1, 1) := by decide +kernel
theorem dL_build_181 : decode cL_build 181 = .ok (.sipush 160, 3) := by decide +kernel
theorem dL_build_184 : decode cL_build 184 = .ok (.iload_n 2, 1) := by decide +kernel
theorem dL_build_185 : decode cL_build 185 = .ok (.iadd, 1) := by decide +kernel
theorem dL_build_186 : decode cL_build 186 = .ok (.iconst 4, 1) := by decide +kernel
theorem dL_build_187 : decode cL_build 187 = .ok (.invokestatic 134, 3) := by decide +kernel
theorem dL_build_190 : decode cL_build 190 = .ok (.ifCond .le 7, 3) := by decide +kernel
theorem dL_build_193 : decode cL_build 193 = .ok (.iconst 1, 1) := by decide +kernel
theorem dL_build_194 : decode cL_build 194 = .ok (.goto 4, 3) := by decide +kernel
theorem dL_build_197 : decode cL_build 197 = .ok (.iconst 0, 1) := by decide +kernel
theorem dL_build_198 : decode cL_build 198 = .ok (.invokestatic 43, 3) := by decide +kernel
theorem dL_build_201 : decode cL_build 201 = .ok (.invokestatic 131, 3) := by decide +kernel
theorem dL_build_204 : decode cL_build 204 = .ok (.pop, 1) := by decide +kernel
theorem dL_build_205 : decode cL_build 205 = .ok (.aload_n 0, 1) := by decide +kernel
theorem dL_build_206 : decode cL_build 206 = .ok (.bipush 10, 2) := by decide +kernel
theorem dL_build_208 : decode cL_build 208 = .ok (.iload_n 2, 1) := by decide +kernel
theorem dL_build_209 : decode cL_build 209 = .ok (.aload_n 1, 1) := by decide +kernel
theorem dL_build_210 : decode cL_build 210 = .ok (.sipush 170, 3) := by decide +kernel
theorem dL_build_213 : decode cL_build 213 = .ok (.iload_n 2, 1) := by decide +kernel
theorem dL_build_214 : decode cL_build 214 = .ok (.iadd, 1) := by decide +kernel
theorem dL_build_215 : decode cL_build 215 = .ok (.bipush 60, 2) := by decide +kernel
theorem dL_build_217 : decode cL_build 217 = .ok (.invokestatic 134, 3) := by decide +kernel
theorem dL_build_220 : decode cL_build 220 = .ok (.invokestatic 138, 3) := by decide +kernel
theorem dL_build_223 : decode cL_build 223 = .ok (.pop, 1) := by decide +kernel
theorem dL_build_224 : decode cL_build 224 = .ok (.iinc 2 1, 3) := by decide +kernel
theorem dL_build_227 : decode cL_build 227 = .ok (.goto (-108), 3) := by decide +kernel
theorem dL_build_230 : decode cL_build 230 = .ok (.aload_n 0, 1) := by decide +kernel
theorem dL_build_231 : decode cL_build 231 = .ok (.iconst 3, 1) := by decide +kernel
theorem dL_build_232 : decode cL_build 232 = .ok (.aload_n 1, 1) := by decide +kernel
theorem dL_build_233 : decode cL_build 233 = .ok (.sipush 180, 3) := by decide +kernel
theorem dL_build_236 : decode cL_build 236 = .ok (.sipush 300, 3) := by decide +kernel
theorem dL_build_239 : decode cL_build 239 = .ok (.invokestatic 134, 3) := by decide +kernel
theorem dL_build_242 : decode cL_build 242 = .ok (.iconst 0, 1) := by decide +kernel
theorem dL_build_243 : decode cL_build 243 = .ok (.invokestatic 138, 3) := by decide +kernel
theorem dL_build_246 : decode cL_build 246 = .ok (.pop, 1) := by decide +kernel
theorem dL_build_247 : decode cL_build 247 = .ok (.aload_n 0, 1) := by decide +kernel
theorem dL_build_248 : decode cL_build 248 = .ok (.bipush 6, 2) := by decide +kernel
theorem dL_build_250 : decode cL_build 250 = .ok (.aload_n 1, 1) := by decide +kernel
theorem dL_build_251 : decode cL_build 251 = .ok (.sipush 181, 3) := by decide +kernel
theorem dL_build_254 : decode cL_build 254 = .ok (.bipush 8, 2) := by decide +kernel
theorem dL_build_256 : decode cL_build 256 = .ok (.invokestatic 134, 3) := by decide +kernel
theorem dL_build_259 : decode cL_build 259 = .ok (.iconst 1, 1) := by decide +kernel
theorem dL_build_260 : decode cL_build 260 = .ok (.invokestatic 138, 3) := by decide +kernel
theorem dL_build_263 : decode cL_build 263 = .ok (.pop, 1) := by decide +kernel
theorem dL_build_264 : decode cL_build 264 = .ok (.return_, 1) := by decide +kernel
theorem dL_isProtected_0 : decode cL_isProtected 0 = .ok (.aload_n 0, 1) := by decide +kernel
theorem dL_isProtected_1 : decode cL_isProtected 1 = .ok (.sipush 160, 3) := by decide +kernel
theorem dL_isProtected_4 : decode cL_isProtected 4 = .ok (.iload_n 1, 1) := by decide +kernel
theorem dL_isProtected_5 : decode cL_isProtected 5 = .ok (.iadd, 1) := by decide +kernel
theorem dL_isProtected_6 : decode cL_isProtected 6 = .ok (.iconst 4, 1) := by decide +kernel
theorem dL_isProtected_7 : decode cL_isProtected 7 = .ok (.invokestatic 134, 3) := by decide +kernel
theorem dL_isProtected_10 : decode cL_isProtected 10 = .ok (.ifCond .le 7, 3) := by decide +kernel
theorem dL_isProtected_13 : decode cL_isProtected 13 = .ok (.iconst 1, 1) := by decide +kernel
theorem dL_isProtected_14 : decode cL_isProtected 14 = .ok (.goto 4, 3) := by decide +kernel
theorem dL_isProtected_17 : decode cL_isProtected 17 = .ok (.iconst 0, 1) := by decide +kernel
theorem dL_isProtected_18 : decode cL_isProtected 18 = .ok (.ireturn, 1) := by decide +kernel
theorem dL_areLosses_0 : decode cL_areLosses 0 = .ok (.iconst 1, 1) := by decide +kernel
theorem dL_areLosses_1 : decode cL_areLosses 1 = .ok (.istore_n 1, 1) := by decide +kernel
theorem dL_areLosses_2 : decode cL_areLosses 2 = .ok (.iconst 0, 1) := by decide +kernel
theorem dL_areLosses_3 : decode cL_areLosses 3 = .ok (.istore_n 2, 1) := by decide +kernel
theorem dL_areLosses_4 : decode cL_areLosses 4 = .ok (.iload_n 2, 1) := by decide +kernel
theorem dL_areLosses_5 : decode cL_areLosses 5 = .ok (.bipush 10, 2) := by decide +kernel
theorem dL_areLosses_7 : decode cL_areLosses 7 = .ok (.if_icmp .ge 88, 3) := by decide +kernel
theorem dL_areLosses_10 : decode cL_areLosses 10 = .ok (.iconst 0, 1) := by decide +kernel
theorem dL_areLosses_11 : decode cL_areLosses 11 = .ok (.istore_n 3, 1) := by decide +kernel
theorem dL_areLosses_12 : decode cL_areLosses 12 = .ok (.iload_n 3, 1) := by decide +kernel
theorem dL_areLosses_13 : decode cL_areLosses 13 = .ok (.bipush 10, 2) := by decide +kernel
theorem dL_areLosses_15 : decode cL_areLosses 15 = .ok (.if_icmp .ge 74, 3) := by decide +kernel
theorem dL_areLosses_18 : decode cL_areLosses 18 = .ok (.aload_n 0, 1) := by decide +kernel
theorem dL_areLosses_19 : decode cL_areLosses 19 = .ok (.bipush 20, 2) := by decide +kernel
theorem dL_areLosses_21 : decode cL_areLosses 21 = .ok (.iload_n 2, 1) := by decide +kernel
theorem dL_areLosses_22 : decode cL_areLosses 22 = .ok (.iload_n 3, 1) := by decide +kernel
theorem dL_areLosses_23 : decode cL_areLosses 23 = .ok (.invokestatic 138, 3) := by decide +kernel
theorem dL_areLosses_26 : decode cL_areLosses 26 = .ok (.istore 4, 2) := by decide +kernel
theorem dL_areLosses_28 : decode cL_areLosses 28 = .ok (.iload_n 1, 1) := by decide +kernel
theorem dL_areLosses_29 : decode cL_areLosses 29 = .ok (.ifCond .eq 52, 3) := by decide +kernel
theorem dL_areLosses_32 : decode cL_areLosses 32 = .ok (.iload 4, 2) := by decide +kernel
theorem dL_areLosses_34 : decode cL_areLosses 34 = .ok (.aload_n 0, 1) := by decide +kernel
theorem dL_areLosses_35 : decode cL_areLosses 35 = .ok (.bipush 20, 2) := by decide +kernel
theorem dL_areLosses_37 : decode cL_areLosses 37 = .ok (.iload_n 3, 1) := by decide +kernel
theorem dL_areLosses_38 : decode cL_areLosses 38 = .ok (.iload_n 2, 1) := by decide +kernel
theorem dL_areLosses_39 : decode cL_areLosses 39 = .ok (.invokestatic 138, 3) := by decide +kernel
theorem dL_areLosses_42 : decode cL_areLosses 42 = .ok (.if_icmp .ne 39, 3) := by decide +kernel
theorem dL_areLosses_45 : decode cL_areLosses 45 = .ok (.iload_n 2, 1) := by decide +kernel
theorem dL_areLosses_46 : decode cL_areLosses 46 = .ok (.iload_n 3, 1) := by decide +kernel
theorem dL_areLosses_47 : decode cL_areLosses 47 = .ok (.if_icmp .ne 11, 3) := by decide +kernel
theorem dL_areLosses_50 : decode cL_areLosses 50 = .ok (.iload 4, 2) := by decide +kernel
theorem dL_areLosses_52 : decode cL_areLosses 52 = .ok (.ifCond .ne 29, 3) := by decide +kernel
theorem dL_areLosses_55 : decode cL_areLosses 55 = .ok (.goto 22, 3) := by decide +kernel
theorem dL_areLosses_58 : decode cL_areLosses 58 = .ok (.iload 4, 2) := by decide +kernel
theorem dL_areLosses_60 : decode cL_areLosses 60 = .ok (.sipush 200, 3) := by decide +kernel
theorem dL_areLosses_63 : decode cL_areLosses 63 = .ok (.if_icmp .lt 18, 3) := by decide +kernel
theorem dL_areLosses_66 : decode cL_areLosses 66 = .ok (.iload 4, 2) := by decide +kernel
theorem dL_areLosses_68 : decode cL_areLosses 68 = .ok (.sipush 200, 3) := by decide +kernel
theorem dL_areLosses_71 : decode cL_areLosses 71 = .ok (.isub, 1) := by decide +kernel
theorem dL_areLosses_72 : decode cL_areLosses 72 = .ok (.iconst 4, 1) := by decide +kernel
theorem dL_areLosses_73 : decode cL_areLosses 73 = .ok (.irem, 1) := by decide +kernel
theorem dL_areLosses_74 : decode cL_areLosses 74 = .ok (.ifCond .ne 7, 3) := by decide +kernel
theorem dL_areLosses_77 : decode cL_areLosses 77 = .ok (.iconst 1, 1) := by decide +kernel
theorem dL_areLosses_78 : decode cL_areLosses 78 = .ok (.goto 4, 3) := by decide +kernel
theorem dL_areLosses_81 : decode cL_areLosses 81 = .ok (.iconst 0, 1) := by decide +kernel
theorem dL_areLosses_82 : decode cL_areLosses 82 = .ok (.istore_n 1, 1) := by decide +kernel
theorem dL_areLosses_83 : decode cL_areLosses 83 = .ok (.iinc 3 1, 3) := by decide +kernel
theorem dL_areLosses_86 : decode cL_areLosses 86 = .ok (.goto (-74), 3) := by decide +kernel
theorem dL_areLosses_89 : decode cL_areLosses 89 = .ok (.iinc 2 1, 3) := by decide +kernel
theorem dL_areLosses_92 : decode cL_areLosses 92 = .ok (.goto (-88), 3) := by decide +kernel
theorem dL_areLosses_95 : decode cL_areLosses 95 = .ok (.iload_n 1, 1) := by decide +kernel
theorem dL_areLosses_96 : decode cL_areLosses 96 = .ok (.ireturn, 1) := by decide +kernel
theorem dL_areKept_0 : decode cL_areKept 0 = .ok (.aload_n 0, 1) := by decide +kernel
theorem dL_areKept_1 : decode cL_areKept 1 = .ok (.invokevirtual 142, 3) := by decide +kernel
theorem dL_areKept_4 : decode cL_areKept 4 = .ok (.istore 4, 2) := by decide +kernel
theorem dL_areKept_6 : decode cL_areKept 6 = .ok (.iconst 0, 1) := by decide +kernel
theorem dL_areKept_7 : decode cL_areKept 7 = .ok (.istore 5, 2) := by decide +kernel
theorem dL_areKept_9 : decode cL_areKept 9 = .ok (.iconst 0, 1) := by decide +kernel
theorem dL_areKept_10 : decode cL_areKept 10 = .ok (.istore 6, 2) := by decide +kernel
theorem dL_areKept_12 : decode cL_areKept 12 = .ok (.iload 6, 2) := by decide +kernel
theorem dL_areKept_14 : decode cL_areKept 14 = .ok (.bipush 6, 2) := by decide +kernel
theorem dL_areKept_16 : decode cL_areKept 16 = .ok (.if_icmp .ge 239, 3) := by decide +kernel
theorem dL_areKept_19 : decode cL_areKept 19 = .ok (.iload 4, 2) := by decide +kernel
theorem dL_areKept_21 : decode cL_areKept 21 = .ok (.ifCond .eq 234, 3) := by decide +kernel
theorem dL_areKept_24 : decode cL_areKept 24 = .ok (.aload_n 0, 1) := by decide +kernel
theorem dL_areKept_25 : decode cL_areKept 25 = .ok (.bipush 25, 2) := by decide +kernel
theorem dL_areKept_27 : decode cL_areKept 27 = .ok (.iload 6, 2) := by decide +kernel
theorem dL_areKept_29 : decode cL_areKept 29 = .ok (.iload_n 2, 1) := by decide +kernel
theorem dL_areKept_30 : decode cL_areKept 30 = .ok (.invokestatic 138, 3) := by decide +kernel
theorem dL_areKept_33 : decode cL_areKept 33 = .ok (.istore 7, 2) := by decide +kernel
theorem dL_areKept_35 : decode cL_areKept 35 = .ok (.aload_n 0, 1) := by decide +kernel
theorem dL_areKept_36 : decode cL_areKept 36 = .ok (.bipush 23, 2) := by decide +kernel
theorem dL_areKept_38 : decode cL_areKept 38 = .ok (.iload 6, 2) := by decide +kernel
theorem dL_areKept_40 : decode cL_areKept 40 = .ok (.iconst 0, 1) := by decide +kernel
theorem dL_areKept_41 : decode cL_areKept 41 = .ok (.invokestatic 138, 3) := by decide +kernel
theorem dL_areKept_44 : decode cL_areKept 44 = .ok (.istore 8, 2) := by decide +kernel
theorem dL_areKept_46 : decode cL_areKept 46 = .ok (.aload_n 0, 1) := by decide +kernel
theorem dL_areKept_47 : decode cL_areKept 47 = .ok (.bipush 22, 2) := by decide +kernel
theorem dL_areKept_49 : decode cL_areKept 49 = .ok (.iload 6, 2) := by decide +kernel
theorem dL_areKept_51 : decode cL_areKept 51 = .ok (.iconst 0, 1) := by decide +kernel
theorem dL_areKept_52 : decode cL_areKept 52 = .ok (.invokestatic 138, 3) := by decide +kernel
theorem dL_areKept_55 : decode cL_areKept 55 = .ok (.istore 9, 2) := by decide +kernel
theorem dL_areKept_57 : decode cL_areKept 57 = .ok (.iload 5, 2) := by decide +kernel
theorem dL_areKept_59 : decode cL_areKept 59 = .ok (.iload 7, 2) := by decide +kernel
theorem dL_areKept_61 : decode cL_areKept 61 = .ok (.iconst (-1), 1) := by decide +kernel
theorem dL_areKept_62 : decode cL_areKept 62 = .ok (.if_icmp .eq 7, 3) := by decide +kernel
theorem dL_areKept_65 : decode cL_areKept 65 = .ok (.iconst 1, 1) := by decide +kernel
theorem dL_areKept_66 : decode cL_areKept 66 = .ok (.goto 4, 3) := by decide +kernel
theorem dL_areKept_69 : decode cL_areKept 69 = .ok (.iconst 0, 1) := by decide +kernel
theorem dL_areKept_70 : decode cL_areKept 70 = .ok (.invokestatic 43, 3) := by decide +kernel
theorem dL_areKept_73 : decode cL_areKept 73 = .ok (.iadd, 1) := by decide +kernel
theorem dL_areKept_74 : decode cL_areKept 74 = .ok (.istore 5, 2) := by decide +kernel
theorem dL_areKept_76 : decode cL_areKept 76 = .ok (.iload 7, 2) := by decide +kernel
theorem dL_areKept_78 : decode cL_areKept 78 = .ok (.iconst (-1), 1) := by decide +kernel
theorem dL_areKept_79 : decode cL_areKept 79 = .ok (.if_icmp .ne 27, 3) := by decide +kernel
theorem dL_areKept_82 : decode cL_areKept 82 = .ok (.iload 8, 2) := by decide +kernel
theorem dL_areKept_84 : decode cL_areKept 84 = .ok (.sipush (-20004), 3) := by decide +kernel
theorem dL_areKept_87 : decode cL_areKept 87 = .ok (.if_icmp .ne 15, 3) := by decide +kernel
theorem dL_areKept_90 : decode cL_areKept 90 = .ok (.iload 9, 2) := by decide +kernel
theorem dL_areKept_92 : decode cL_areKept 92 = .ok (.sipush (-20004), 3) := by decide +kernel
theorem dL_areKept_95 : decode cL_areKept 95 = .ok (.if_icmp .ne 7, 3) := by decide +kernel
theorem dL_areKept_98 : decode cL_areKept 98 = .ok (.iconst 1, 1) := by decide +kernel
theorem dL_areKept_99 : decode cL_areKept 99 = .ok (.goto 45, 3) := by decide +kernel
theorem dL_areKept_102 : decode cL_areKept 102 = .ok (.iconst 0, 1) := by decide +kernel
theorem dL_areKept_103 : decode cL_areKept 103 = .ok (.goto 41, 3) := by decide +kernel
theorem dL_areKept_106 : decode cL_areKept 106 = .ok (.iload 8, 2) := by decide +kernel
theorem dL_areKept_108 : decode cL_areKept 108 = .ok (.iconst 1, 1) := by decide +kernel
theorem dL_areKept_109 : decode cL_areKept 109 = .ok (.if_icmp .eq 16, 3) := by decide +kernel
theorem dL_areKept_112 : decode cL_areKept 112 = .ok (.aload_n 1, 1) := by decide +kernel
theorem dL_areKept_113 : decode cL_areKept 113 = .ok (.iload 6, 2) := by decide +kernel
theorem dL_areKept_115 : decode cL_areKept 115 = .ok (.invokestatic 146, 3) := by decide +kernel
theorem dL_areKept_118 : decode cL_areKept 118 = .ok (.ifCond .eq 7, 3) := by decide +kernel
theorem dL_areKept_121 : decode cL_areKept 121 = .ok (.iload_n 3, 1) := by decide +kernel
theorem dL_areKept_122 : decode cL_areKept 122 = .ok (.ifCond .eq 21, 3) := by decide +kernel
theorem dL_areKept_125 : decode cL_areKept 125 = .ok (.iload 9, 2) := by decide +kernel
theorem dL_areKept_127 : decode cL_areKept 127 = .ok (.sipush (-20005), 3) := by decide +kernel
theorem dL_areKept_130 : decode cL_areKept 130 = .ok (.if_icmp .ne 9, 3) := by decide +kernel
theorem dL_areKept_133 : decode cL_areKept 133 = .ok (.iload 8, 2) := by decide +kernel
theorem dL_areKept_135 : decode cL_areKept 135 = .ok (.iconst 1, 1) := by decide +kernel
theorem dL_areKept_136 : decode cL_areKept 136 = .ok (.if_icmp .ne 7, 3) := by decide +kernel
theorem dL_areKept_139 : decode cL_areKept 139 = .ok (.iconst 1, 1) := by decide +kernel
theorem dL_areKept_140 : decode cL_areKept 140 = .ok (.goto 4, 3) := by decide +kernel
theorem dL_areKept_143 : decode cL_areKept 143 = .ok (.iconst 0, 1) := by decide +kernel
theorem dL_areKept_144 : decode cL_areKept 144 = .ok (.istore 4, 2) := by decide +kernel
theorem dL_areKept_146 : decode cL_areKept 146 = .ok (.iconst 0, 1) := by decide +kernel
theorem dL_areKept_147 : decode cL_areKept 147 = .ok (.istore 10, 2) := by decide +kernel
theorem dL_areKept_149 : decode cL_areKept 149 = .ok (.iload 10, 2) := by decide +kernel
theorem dL_areKept_151 : decode cL_areKept 151 = .ok (.iload 6, 2) := by decide +kernel
theorem dL_areKept_153 : decode cL_areKept 153 = .ok (.if_icmp .ge 96, 3) := by decide +kernel
theorem dL_areKept_156 : decode cL_areKept 156 = .ok (.iload 4, 2) := by decide +kernel
theorem dL_areKept_158 : decode cL_areKept 158 = .ok (.ifCond .eq 91, 3) := by decide +kernel
theorem dL_areKept_161 : decode cL_areKept 161 = .ok (.iload 7, 2) := by decide +kernel
theorem dL_areKept_163 : decode cL_areKept 163 = .ok (.iconst (-1), 1) := by decide +kernel
theorem dL_areKept_164 : decode cL_areKept 164 = .ok (.if_icmp .eq 85, 3) := by decide +kernel
theorem dL_areKept_167 : decode cL_areKept 167 = .ok (.aload_n 0, 1) := by decide +kernel
theorem dL_areKept_168 : decode cL_areKept 168 = .ok (.bipush 25, 2) := by decide +kernel
theorem dL_areKept_170 : decode cL_areKept 170 = .ok (.iload 10, 2) := by decide +kernel
theorem dL_areKept_172 : decode cL_areKept 172 = .ok (.iload_n 2, 1) := by decide +kernel
theorem dL_areKept_173 : decode cL_areKept 173 = .ok (.invokestatic 138, 3) := by decide +kernel
theorem dL_areKept_176 : decode cL_areKept 176 = .ok (.istore 11, 2) := by decide +kernel
theorem dL_areKept_178 : decode cL_areKept 178 = .ok (.iload 11, 2) := by decide +kernel
theorem dL_areKept_180 : decode cL_areKept 180 = .ok (.iconst (-1), 1) := by decide +kernel
theorem dL_areKept_181 : decode cL_areKept 181 = .ok (.if_icmp .eq 55, 3) := by decide +kernel
theorem dL_areKept_184 : decode cL_areKept 184 = .ok (.aload_n 0, 1) := by decide +kernel
theorem dL_areKept_185 : decode cL_areKept 185 = .ok (.bipush 24, 2) := by decide +kernel
theorem dL_areKept_187 : decode cL_areKept 187 = .ok (.iload 6, 2) := by decide +kernel
theorem dL_areKept_189 : decode cL_areKept 189 = .ok (.iload 7, 2) := by decide +kernel
theorem dL_areKept_191 : decode cL_areKept 191 = .ok (.iload 10, 2) := by decide +kernel
theorem dL_areKept_193 : decode cL_areKept 193 = .ok (.iload 11, 2) := by decide +kernel
theorem dL_areKept_195 : decode cL_areKept 195 = .ok (.invokestatic 131, 3) := by decide +kernel
theorem dL_areKept_198 : decode cL_areKept 198 = .ok (.aload_n 0, 1) := by decide +kernel
theorem dL_areKept_199 : decode cL_areKept 199 = .ok (.bipush 24, 2) := by decide +kernel
theorem dL_areKept_201 : decode cL_areKept 201 = .ok (.iload 10, 2) := by decide +kernel
theorem dL_areKept_203 : decode cL_areKept 203 = .ok (.iload 11, 2) := by decide +kernel
theorem dL_areKept_205 : decode cL_areKept 205 = .ok (.iload 6, 2) := by decide +kernel
theorem dL_areKept_207 : decode cL_areKept 207 = .ok (.iload 7, 2) := by decide +kernel
theorem dL_areKept_209 : decode cL_areKept 209 = .ok (.invokestatic 131, 3) := by decide +kernel
theorem dL_areKept_212 : decode cL_areKept 212 = .ok (.if_icmp .ne 28, 3) := by decide +kernel
theorem dL_areKept_215 : decode cL_areKept 215 = .ok (.iload_n 3, 1) := by decide +kernel
theorem dL_areKept_216 : decode cL_areKept 216 = .ok (.ifCond .ne 20, 3) := by decide +kernel
theorem dL_areKept_219 : decode cL_areKept 219 = .ok (.aload_n 0, 1) := by decide +kernel
theorem dL_areKept_220 : decode cL_areKept 220 = .ok (.bipush 24, 2) := by decide +kernel
theorem dL_areKept_222 : decode cL_areKept 222 = .ok (.iload 6, 2) := by decide +kernel
theorem dL_areKept_224 : decode cL_areKept 224 = .ok (.iload 7, 2) := by decide +kernel
theorem dL_areKept_226 : decode cL_areKept 226 = .ok (.iload 10, 2) := by decide +kernel
theorem dL_areKept_228 : decode cL_areKept 228 = .ok (.iload 11, 2) := by decide +kernel
theorem dL_areKept_230 : decode cL_areKept 230 = .ok (.invokestatic 131, 3) := by decide +kernel
theorem dL_areKept_233 : decode cL_areKept 233 = .ok (.ifCond .ne 7, 3) := by decide +kernel
theorem dL_areKept_236 : decode cL_areKept 236 = .ok (.iconst 1, 1) := by decide +kernel
theorem dL_areKept_237 : decode cL_areKept 237 = .ok (.goto 4, 3) := by decide +kernel
theorem dL_areKept_240 : decode cL_areKept 240 = .ok (.iconst 0, 1) := by decide +kernel
theorem dL_areKept_241 : decode cL_areKept 241 = .ok (.istore 4, 2) := by decide +kernel
theorem dL_areKept_243 : decode cL_areKept 243 = .ok (.iinc 10 1, 3) := by decide +kernel
theorem dL_areKept_246 : decode cL_areKept 246 = .ok (.goto (-97), 3) := by decide +kernel
theorem dL_areKept_249 : decode cL_areKept 249 = .ok (.iinc 6 1, 3) := by decide +kernel
theorem dL_areKept_252 : decode cL_areKept 252 = .ok (.goto (-240), 3) := by decide +kernel
theorem dL_areKept_255 : decode cL_areKept 255 = .ok (.iload 4, 2) := by decide +kernel
theorem dL_areKept_257 : decode cL_areKept 257 = .ok (.ifCond .eq 21, 3) := by decide +kernel
theorem dL_areKept_260 : decode cL_areKept 260 = .ok (.aload_n 0, 1) := by decide +kernel
theorem dL_areKept_261 : decode cL_areKept 261 = .ok (.invokevirtual 150, 3) := by decide +kernel
theorem dL_areKept_264 : decode cL_areKept 264 = .ok (.iload 5, 2) := by decide +kernel
theorem dL_areKept_266 : decode cL_areKept 266 = .ok (.i2f, 1) := by decide +kernel
theorem dL_areKept_267 : decode cL_areKept 267 = .ok (.ldc 154, 2) := by decide +kernel
theorem dL_areKept_269 : decode cL_areKept 269 = .ok (.fdiv, 1) := by decide +kernel
theorem dL_areKept_270 : decode cL_areKept 270 = .ok (.fcmp .l, 1) := by decide +kernel
theorem dL_areKept_271 : decode cL_areKept 271 = .ok (.ifCond .ne 7, 3) := by decide +kernel
theorem dL_areKept_274 : decode cL_areKept 274 = .ok (.iconst 1, 1) := by decide +kernel
theorem dL_areKept_275 : decode cL_areKept 275 = .ok (.goto 4, 3) := by decide +kernel
theorem dL_areKept_278 : decode cL_areKept 278 = .ok (.iconst 0, 1) := by decide +kernel
theorem dL_areKept_279 : decode cL_areKept 279 = .ok (.ireturn, 1) := by decide +kernel
theorem dL_arePacked_0 : decode cL_arePacked 0 = .ok (.iconst 1, 1) := by decide +kernel
theorem dL_arePacked_1 : decode cL_arePacked 1 = .ok (.istore_n 2, 1) := by decide +kernel
theorem dL_arePacked_2 : decode cL_arePacked 2 = .ok (.iconst 0, 1) := by decide +kernel
theorem dL_arePacked_3 : decode cL_arePacked 3 = .ok (.istore_n 3, 1) := by decide +kernel
theorem dL_arePacked_4 : decode cL_arePacked 4 = .ok (.iconst 1, 1) := by decide +kernel
theorem dL_arePacked_5 : decode cL_arePacked 5 = .ok (.istore 4, 2) := by decide +kernel
theorem dL_arePacked_7 : decode cL_arePacked 7 = .ok (.iload 4, 2) := by decide +kernel
theorem dL_arePacked_9 : decode cL_arePacked 9 = .ok (.bipush 9, 2) := by decide +kernel
theorem dL_arePacked_11 : decode cL_arePacked 11 = .ok (.if_icmp .ge 217, 3) := by decide +kernel
theorem dL_arePacked_14 : decode cL_arePacked 14 = .ok (.iload_n 2, 1) := by decide +kernel
theorem dL_arePacked_15 : decode cL_arePacked 15 = .ok (.ifCond .eq 213, 3) := by decide +kernel
theorem dL_arePacked_18 : decode cL_arePacked 18 = .ok (.aload_n 0, 1) := by decide +kernel
theorem dL_arePacked_19 : decode cL_arePacked 19 = .ok (.bipush 27, 2) := by decide +kernel
theorem dL_arePacked_21 : decode cL_arePacked 21 = .ok (.iload 4, 2) := by decide +kernel
theorem dL_arePacked_23 : decode cL_arePacked 23 = .ok (.iconst 0, 1) := by decide +kernel
theorem dL_arePacked_24 : decode cL_arePacked 24 = .ok (.invokestatic 138, 3) := by decide +kernel
theorem dL_arePacked_27 : decode cL_arePacked 27 = .ok (.iconst 1, 1) := by decide +kernel
theorem dL_arePacked_28 : decode cL_arePacked 28 = .ok (.if_icmp .ne 7, 3) := by decide +kernel
theorem dL_arePacked_31 : decode cL_arePacked 31 = .ok (.iconst 1, 1) := by decide +kernel
theorem dL_arePacked_32 : decode cL_arePacked 32 = .ok (.goto 4, 3) := by decide +kernel
theorem dL_arePacked_35 : decode cL_arePacked 35 = .ok (.iconst 0, 1) := by decide +kernel
theorem dL_arePacked_36 : decode cL_arePacked 36 = .ok (.istore 5, 2) := by decide +kernel
theorem dL_arePacked_38 : decode cL_arePacked 38 = .ok (.iload 5, 2) := by decide +kernel
theorem dL_arePacked_40 : decode cL_arePacked 40 = .ok (.ifCond .ne 7, 3) := by decide +kernel
theorem dL_arePacked_43 : decode cL_arePacked 43 = .ok (.iload_n 3, 1) := by decide +kernel
theorem dL_arePacked_44 : decode cL_arePacked 44 = .ok (.ifCond .ne 7, 3) := by decide +kernel
theorem dL_arePacked_47 : decode cL_arePacked 47 = .ok (.iconst 1, 1) := by decide +kernel
theorem dL_arePacked_48 : decode cL_arePacked 48 = .ok (.goto 4, 3) := by decide +kernel
theorem dL_arePacked_51 : decode cL_arePacked 51 = .ok (.iconst 0, 1) := by decide +kernel
theorem dL_arePacked_52 : decode cL_arePacked 52 = .ok (.istore_n 2, 1) := by decide +kernel
theorem dL_arePacked_53 : decode cL_arePacked 53 = .ok (.iload 5, 2) := by decide +kernel
theorem dL_arePacked_55 : decode cL_arePacked 55 = .ok (.istore_n 3, 1) := by decide +kernel
theorem dL_arePacked_56 : decode cL_arePacked 56 = .ok (.iconst 0, 1) := by decide +kernel
theorem dL_arePacked_57 : decode cL_arePacked 57 = .ok (.istore 6, 2) := by decide +kernel
theorem dL_arePacked_59 : decode cL_arePacked 59 = .ok (.iload 6, 2) := by decide +kernel
theorem dL_arePacked_61 : decode cL_arePacked 61 = .ok (.bipush 6, 2) := by decide +kernel
theorem dL_arePacked_63 : decode cL_arePacked 63 = .ok (.if_icmp .ge 159, 3) := by decide +kernel
theorem dL_arePacked_66 : decode cL_arePacked 66 = .ok (.iload_n 2, 1) := by decide +kernel
theorem dL_arePacked_67 : decode cL_arePacked 67 = .ok (.ifCond .eq 155, 3) := by decide +kernel
theorem dL_arePacked_70 : decode cL_arePacked 70 = .ok (.aload_n 0, 1) := by decide +kernel
theorem dL_arePacked_71 : decode cL_arePacked 71 = .ok (.bipush 28, 2) := by decide +kernel
theorem dL_arePacked_73 : decode cL_arePacked 73 = .ok (.iload 4, 2) := by decide +kernel
theorem dL_arePacked_75 : decode cL_arePacked 75 = .ok (.iload 6, 2) := by decide +kernel
theorem dL_arePacked_77 : decode cL_arePacked 77 = .ok (.invokestatic 138, 3) := by decide +kernel
theorem dL_arePacked_80 : decode cL_arePacked 80 = .ok (.istore 7, 2) := by decide +kernel
theorem dL_arePacked_82 : decode cL_arePacked 82 = .ok (.aload_n 1, 1) := by decide +kernel
theorem dL_arePacked_83 : decode cL_arePacked 83 = .ok (.iload 6, 2) := by decide +kernel
theorem dL_arePacked_85 : decode cL_arePacked 85 = .ok (.invokestatic 146, 3) := by decide +kernel
theorem dL_arePacked_88 : decode cL_arePacked 88 = .ok (.ifCond .ne 19, 3) := by decide +kernel
theorem dL_arePacked_91 : decode cL_arePacked 91 = .ok (.iload 7, 2) := by decide +kernel
theorem dL_arePacked_93 : decode cL_arePacked 93 = .ok (.sipush (-20004), 3) := by decide +kernel
theorem dL_arePacked_96 : decode cL_arePacked 96 = .ok (.if_icmp .ne 7, 3) := by decide +kernel
theorem dL_arePacked_99 : decode cL_arePacked 99 = .ok (.iconst 1, 1) := by decide +kernel
theorem dL_arePacked_100 : decode cL_arePacked 100 = .ok (.goto 45, 3) := by decide +kernel
theorem dL_arePacked_103 : decode cL_arePacked 103 = .ok (.iconst 0, 1) := by decide +kernel
theorem dL_arePacked_104 : decode cL_arePacked 104 = .ok (.goto 41, 3) := by decide +kernel
theorem dL_arePacked_107 : decode cL_arePacked 107 = .ok (.iload 5, 2) := by decide +kernel
theorem dL_arePacked_109 : decode cL_arePacked 109 = .ok (.ifCond .eq 23, 3) := by decide +kernel
theorem dL_arePacked_112 : decode cL_arePacked 112 = .ok (.iload 7, 2) := by decide +kernel
theorem dL_arePacked_114 : decode cL_arePacked 114 = .ok (.ifCond .lt 14, 3) := by decide +kernel
theorem dL_arePacked_117 : decode cL_arePacked 117 = .ok (.iload 7, 2) := by decide +kernel
theorem dL_arePacked_119 : decode cL_arePacked 119 = .ok (.iload 4, 2) := by decide +kernel
theorem dL_arePacked_121 : decode cL_arePacked 121 = .ok (.if_icmp .ge 7, 3) := by decide +kernel
theorem dL_arePacked_124 : decode cL_arePacked 124 = .ok (.iconst 1, 1) := by decide +kernel
theorem dL_arePacked_125 : decode cL_arePacked 125 = .ok (.goto 20, 3) := by decide +kernel
theorem dL_arePacked_128 : decode cL_arePacked 128 = .ok (.iconst 0, 1) := by decide +kernel
theorem dL_arePacked_129 : decode cL_arePacked 129 = .ok (.goto 16, 3) := by decide +kernel
theorem dL_arePacked_132 : decode cL_arePacked 132 = .ok (.iload 7, 2) := by decide +kernel
theorem dL_arePacked_134 : decode cL_arePacked 134 = .ok (.sipush (-20005), 3) := by decide +kernel
theorem dL_arePacked_137 : decode cL_arePacked 137 = .ok (.if_icmp .ne 7, 3) := by decide +kernel
theorem dL_arePacked_140 : decode cL_arePacked 140 = .ok (.iconst 1, 1) := by decide +kernel
theorem dL_arePacked_141 : decode cL_arePacked 141 = .ok (.goto 4, 3) := by decide +kernel
theorem dL_arePacked_144 : decode cL_arePacked 144 = .ok (.iconst 0, 1) := by decide +kernel
theorem dL_arePacked_145 : decode cL_arePacked 145 = .ok (.istore_n 2, 1) := by decide +kernel
theorem dL_arePacked_146 : decode cL_arePacked 146 = .ok (.iconst 0, 1) := by decide +kernel
theorem dL_arePacked_147 : decode cL_arePacked 147 = .ok (.istore 8, 2) := by decide +kernel
theorem dL_arePacked_149 : decode cL_arePacked 149 = .ok (.iload 8, 2) := by decide +kernel
theorem dL_arePacked_151 : decode cL_arePacked 151 = .ok (.iload 6, 2) := by decide +kernel
theorem dL_arePacked_153 : decode cL_arePacked 153 = .ok (.if_icmp .ge 63, 3) := by decide +kernel
theorem dL_arePacked_156 : decode cL_arePacked 156 = .ok (.iload_n 2, 1) := by decide +kernel
theorem dL_arePacked_157 : decode cL_arePacked 157 = .ok (.ifCond .eq 59, 3) := by decide +kernel
theorem dL_arePacked_160 : decode cL_arePacked 160 = .ok (.iload 5, 2) := by decide +kernel
theorem dL_arePacked_162 : decode cL_arePacked 162 = .ok (.ifCond .eq 54, 3) := by decide +kernel
theorem dL_arePacked_165 : decode cL_arePacked 165 = .ok (.iload 7, 2) := by decide +kernel
theorem dL_arePacked_167 : decode cL_arePacked 167 = .ok (.ifCond .lt 49, 3) := by decide +kernel
theorem dL_arePacked_170 : decode cL_arePacked 170 = .ok (.aload_n 1, 1) := by decide +kernel
theorem dL_arePacked_171 : decode cL_arePacked 171 = .ok (.iload 8, 2) := by decide +kernel
theorem dL_arePacked_173 : decode cL_arePacked 173 = .ok (.invokestatic 146, 3) := by decide +kernel
theorem dL_arePacked_176 : decode cL_arePacked 176 = .ok (.ifCond .eq 28, 3) := by decide +kernel
theorem dL_arePacked_179 : decode cL_arePacked 179 = .ok (.aload_n 0, 1) := by decide +kernel
theorem dL_arePacked_180 : decode cL_arePacked 180 = .ok (.bipush 24, 2) := by decide +kernel
theorem dL_arePacked_182 : decode cL_arePacked 182 = .ok (.iload 6, 2) := by decide +kernel
theorem dL_arePacked_184 : decode cL_arePacked 184 = .ok (.iload 7, 2) := by decide +kernel
theorem dL_arePacked_186 : decode cL_arePacked 186 = .ok (.iload 8, 2) := by decide +kernel
theorem dL_arePacked_188 : decode cL_arePacked 188 = .ok (.aload_n 0, 1) := by decide +kernel
theorem dL_arePacked_189 : decode cL_arePacked 189 = .ok (.bipush 28, 2) := by decide +kernel
theorem dL_arePacked_191 : decode cL_arePacked 191 = .ok (.iload 4, 2) := by decide +kernel
theorem dL_arePacked_193 : decode cL_arePacked 193 = .ok (.iload 8, 2) := by decide +kernel
theorem dL_arePacked_195 : decode cL_arePacked 195 = .ok (.invokestatic 138, 3) := by decide +kernel
theorem dL_arePacked_198 : decode cL_arePacked 198 = .ok (.invokestatic 131, 3) := by decide +kernel
theorem dL_arePacked_201 : decode cL_arePacked 201 = .ok (.ifCond .ne 7, 3) := by decide +kernel
theorem dL_arePacked_204 : decode cL_arePacked 204 = .ok (.iconst 1, 1) := by decide +kernel
theorem dL_arePacked_205 : decode cL_arePacked 205 = .ok (.goto 4, 3) := by decide +kernel
theorem dL_arePacked_208 : decode cL_arePacked 208 = .ok (.iconst 0, 1) := by decide +kernel
theorem dL_arePacked_209 : decode cL_arePacked 209 = .ok (.istore_n 2, 1) := by decide +kernel
theorem dL_arePacked_210 : decode cL_arePacked 210 = .ok (.iinc 8 1, 3) := by decide +kernel
theorem dL_arePacked_213 : decode cL_arePacked 213 = .ok (.goto (-64), 3) := by decide +kernel
theorem dL_arePacked_216 : decode cL_arePacked 216 = .ok (.iinc 6 1, 3) := by decide +kernel
theorem dL_arePacked_219 : decode cL_arePacked 219 = .ok (.goto (-160), 3) := by decide +kernel
theorem dL_arePacked_222 : decode cL_arePacked 222 = .ok (.iinc 4 1, 3) := by decide +kernel
theorem dL_arePacked_225 : decode cL_arePacked 225 = .ok (.goto (-218), 3) := by decide +kernel
theorem dL_arePacked_228 : decode cL_arePacked 228 = .ok (.iload_n 2, 1) := by decide +kernel
theorem dL_arePacked_229 : decode cL_arePacked 229 = .ok (.ireturn, 1) := by decide +kernel
theorem dL_isSold_0 : decode cL_isSold 0 = .ok (.bipush 6, 2) := by decide +kernel
theorem dL_isSold_2 : decode cL_isSold 2 = .ok (.newarray .int, 2) := by decide +kernel
theorem dL_isSold_4 : decode cL_isSold 4 = .ok (.astore 4, 2) := by decide +kernel
theorem dL_isSold_6 : decode cL_isSold 6 = .ok (.iconst 0, 1) := by decide +kernel
theorem dL_isSold_7 : decode cL_isSold 7 = .ok (.istore 5, 2) := by decide +kernel
theorem dL_isSold_9 : decode cL_isSold 9 = .ok (.iload 5, 2) := by decide +kernel
theorem dL_isSold_11 : decode cL_isSold 11 = .ok (.bipush 6, 2) := by decide +kernel
theorem dL_isSold_13 : decode cL_isSold 13 = .ok (.if_icmp .ge 23, 3) := by decide +kernel
theorem dL_isSold_16 : decode cL_isSold 16 = .ok (.aload 4, 2) := by decide +kernel
theorem dL_isSold_18 : decode cL_isSold 18 = .ok (.iload 5, 2) := by decide +kernel
theorem dL_isSold_20 : decode cL_isSold 20 = .ok (.aload_n 0, 1) := by decide +kernel
theorem dL_isSold_21 : decode cL_isSold 21 = .ok (.bipush 25, 2) := by decide +kernel
theorem dL_isSold_23 : decode cL_isSold 23 = .ok (.iload 5, 2) := by decide +kernel
theorem dL_isSold_25 : decode cL_isSold 25 = .ok (.iload_n 3, 1) := by decide +kernel
theorem dL_isSold_26 : decode cL_isSold 26 = .ok (.invokestatic 138, 3) := by decide +kernel
theorem dL_isSold_29 : decode cL_isSold 29 = .ok (.iastore, 1) := by decide +kernel
theorem dL_isSold_30 : decode cL_isSold 30 = .ok (.iinc 5 1, 3) := by decide +kernel
theorem dL_isSold_33 : decode cL_isSold 33 = .ok (.goto (-24), 3) := by decide +kernel
theorem dL_isSold_36 : decode cL_isSold 36 = .ok (.iconst 1, 1) := by decide +kernel
theorem dL_isSold_37 : decode cL_isSold 37 = .ok (.aload_n 1, 1) := by decide +kernel
theorem dL_isSold_38 : decode cL_isSold 38 = .ok (.iload_n 2, 1) := by decide +kernel
theorem dL_isSold_39 : decode cL_isSold 39 = .ok (.bipush 80, 2) := by decide +kernel
theorem dL_isSold_41 : decode cL_isSold 41 = .ok (.invokestatic 134, 3) := by decide +kernel
theorem dL_isSold_44 : decode cL_isSold 44 = .ok (.iadd, 1) := by decide +kernel
theorem dL_isSold_45 : decode cL_isSold 45 = .ok (.istore 5, 2) := by decide +kernel
theorem dL_isSold_47 : decode cL_isSold 47 = .ok (.aload_n 0, 1) := by decide +kernel
theorem dL_isSold_48 : decode cL_isSold 48 = .ok (.bipush 11, 2) := by decide +kernel
theorem dL_isSold_50 : decode cL_isSold 50 = .ok (.iload 5, 2) := by decide +kernel
theorem dL_isSold_52 : decode cL_isSold 52 = .ok (.iconst 1, 1) := by decide +kernel
theorem dL_isSold_53 : decode cL_isSold 53 = .ok (.aload_n 1, 1) := by decide +kernel
theorem dL_isSold_54 : decode cL_isSold 54 = .ok (.iload_n 2, 1) := by decide +kernel
theorem dL_isSold_55 : decode cL_isSold 55 = .ok (.iconst 1, 1) := by decide +kernel
theorem dL_isSold_56 : decode cL_isSold 56 = .ok (.iadd, 1) := by decide +kernel
theorem dL_isSold_57 : decode cL_isSold 57 = .ok (.bipush 20, 2) := by decide +kernel
theorem dL_isSold_59 : decode cL_isSold 59 = .ok (.invokestatic 134, 3) := by decide +kernel
theorem dL_isSold_62 : decode cL_isSold 62 = .ok (.iadd, 1) := by decide +kernel
theorem dL_isSold_63 : decode cL_isSold 63 = .ok (.iconst 1, 1) := by decide +kernel
theorem dL_isSold_64 : decode cL_isSold 64 = .ok (.aload_n 1, 1) := by decide +kernel
theorem dL_isSold_65 : decode cL_isSold 65 = .ok (.iload_n 2, 1) := by decide +kernel
theorem dL_isSold_66 : decode cL_isSold 66 = .ok (.iconst 2, 1) := by decide +kernel
theorem dL_isSold_67 : decode cL_isSold 67 = .ok (.iadd, 1) := by decide +kernel
theorem dL_isSold_68 : decode cL_isSold 68 = .ok (.iconst 4, 1) := by decide +kernel
theorem dL_isSold_69 : decode cL_isSold 69 = .ok (.invokestatic 134, 3) := by decide +kernel
theorem dL_isSold_72 : decode cL_isSold 72 = .ok (.iadd, 1) := by decide +kernel
theorem dL_isSold_73 : decode cL_isSold 73 = .ok (.iconst 0, 1) := by decide +kernel
theorem dL_isSold_74 : decode cL_isSold 74 = .ok (.invokestatic 131, 3) := by decide +kernel
theorem dL_isSold_77 : decode cL_isSold 77 = .ok (.istore 6, 2) := by decide +kernel
theorem dL_isSold_79 : decode cL_isSold 79 = .ok (.iconst 0, 1) := by decide +kernel
theorem dL_isSold_80 : decode cL_isSold 80 = .ok (.istore 7, 2) := by decide +kernel
theorem dL_isSold_82 : decode cL_isSold 82 = .ok (.iconst 1, 1) := by decide +kernel
theorem dL_isSold_83 : decode cL_isSold 83 = .ok (.istore 8, 2) := by decide +kernel
theorem dL_isSold_85 : decode cL_isSold 85 = .ok (.iconst 0, 1) := by decide +kernel
theorem dL_isSold_86 : decode cL_isSold 86 = .ok (.istore 9, 2) := by decide +kernel
theorem dL_isSold_88 : decode cL_isSold 88 = .ok (.iload 9, 2) := by decide +kernel
theorem dL_isSold_90 : decode cL_isSold 90 = .ok (.bipush 6, 2) := by decide +kernel
theorem dL_isSold_92 : decode cL_isSold 92 = .ok (.if_icmp .ge 154, 3) := by decide +kernel
theorem dL_isSold_95 : decode cL_isSold 95 = .ok (.iload 8, 2) := by decide +kernel
theorem dL_isSold_97 : decode cL_isSold 97 = .ok (.ifCond .eq 149, 3) := by decide +kernel
theorem dL_isSold_100 : decode cL_isSold 100 = .ok (.iload 6, 2) := by decide +kernel
theorem dL_isSold_102 : decode cL_isSold 102 = .ok (.ifCond .lt 144, 3) := by decide +kernel
theorem dL_isSold_105 : decode cL_isSold 105 = .ok (.aload_n 0, 1) := by decide +kernel
theorem dL_isSold_106 : decode cL_isSold 106 = .ok (.bipush 29, 2) := by decide +kernel
theorem dL_isSold_108 : decode cL_isSold 108 = .ok (.iload 9, 2) := by decide +kernel
theorem dL_isSold_110 : decode cL_isSold 110 = .ok (.iconst 0, 1) := by decide +kernel
theorem dL_isSold_111 : decode cL_isSold 111 = .ok (.invokestatic 138, 3) := by decide +kernel
theorem dL_isSold_114 : decode cL_isSold 114 = .ok (.istore 10, 2) := by decide +kernel
theorem dL_isSold_116 : decode cL_isSold 116 = .ok (.iload 7, 2) := by decide +kernel
theorem dL_isSold_118 : decode cL_isSold 118 = .ok (.iload 10, 2) := by decide +kernel
theorem dL_isSold_120 : decode cL_isSold 120 = .ok (.sipush (-20005), 3) := by decide +kernel
theorem dL_isSold_123 : decode cL_isSold 123 = .ok (.if_icmp .eq 7, 3) := by decide +kernel
theorem dL_isSold_126 : decode cL_isSold 126 = .ok (.iconst 1, 1) := by decide +kernel
theorem dL_isSold_127 : decode cL_isSold 127 = .ok (.goto 4, 3) := by decide +kernel
theorem dL_isSold_130 : decode cL_isSold 130 = .ok (.iconst 0, 1) := by decide +kernel
theorem dL_isSold_131 : decode cL_isSold 131 = .ok (.invokestatic 43, 3) := by decide +kernel
theorem dL_isSold_134 : decode cL_isSold 134 = .ok (.iadd, 1) := by decide +kernel
theorem dL_isSold_135 : decode cL_isSold 135 = .ok (.istore 7, 2) := by decide +kernel
theorem dL_isSold_137 : decode cL_isSold 137 = .ok (.iload 10, 2) := by decide +kernel
theorem dL_isSold_139 : decode cL_isSold 139 = .ok (.sipush (-20005), 3) := by decide +kernel
theorem dL_isSold_142 : decode cL_isSold 142 = .ok (.if_icmp .ne 28, 3) := by decide +kernel
theorem dL_isSold_145 : decode cL_isSold 145 = .ok (.aload_n 0, 1) := by decide +kernel
theorem dL_isSold_146 : decode cL_isSold 146 = .ok (.bipush 25, 2) := by decide +kernel
theorem dL_isSold_148 : decode cL_isSold 148 = .ok (.iload 9, 2) := by decide +kernel
theorem dL_isSold_150 : decode cL_isSold 150 = .ok (.iload_n 3, 1) := by decide +kernel
theorem dL_isSold_151 : decode cL_isSold 151 = .ok (.invokestatic 138, 3) := by decide +kernel
theorem dL_isSold_154 : decode cL_isSold 154 = .ok (.aload 4, 2) := by decide +kernel
theorem dL_isSold_156 : decode cL_isSold 156 = .ok (.iload 9, 2) := by decide +kernel
theorem dL_isSold_158 : decode cL_isSold 158 = .ok (.iaload, 1) := by decide +kernel
theorem dL_isSold_159 : decode cL_isSold 159 = .ok (.if_icmp .ne 7, 3) := by decide +kernel
theorem dL_isSold_162 : decode cL_isSold 162 = .ok (.iconst 1, 1) := by decide +kernel
theorem dL_isSold_163 : decode cL_isSold 163 = .ok (.goto 75, 3) := by decide +kernel
theorem dL_isSold_166 : decode cL_isSold 166 = .ok (.iconst 0, 1) := by decide +kernel
theorem dL_isSold_167 : decode cL_isSold 167 = .ok (.goto 71, 3) := by decide +kernel
theorem dL_isSold_170 : decode cL_isSold 170 = .ok (.aload_n 1, 1) := by decide +kernel
theorem dL_isSold_171 : decode cL_isSold 171 = .ok (.iload 9, 2) := by decide +kernel
theorem dL_isSold_173 : decode cL_isSold 173 = .ok (.invokestatic 146, 3) := by decide +kernel
theorem dL_isSold_176 : decode cL_isSold 176 = .ok (.ifCond .eq 61, 3) := by decide +kernel
theorem dL_isSold_179 : decode cL_isSold 179 = .ok (.aload 4, 2) := by decide +kernel
theorem dL_isSold_181 : decode cL_isSold 181 = .ok (.iload 9, 2) := by decide +kernel
theorem dL_isSold_183 : decode cL_isSold 183 = .ok (.iaload, 1) := by decide +kernel
theorem dL_isSold_184 : decode cL_isSold 184 = .ok (.iconst (-1), 1) := by decide +kernel
theorem dL_isSold_185 : decode cL_isSold 185 = .ok (.if_icmp .eq 52, 3) := by decide +kernel
theorem dL_isSold_188 : decode cL_isSold 188 = .ok (.aload_n 0, 1) := by decide +kernel
theorem dL_isSold_189 : decode cL_isSold 189 = .ok (.bipush 25, 2) := by decide +kernel
theorem dL_isSold_191 : decode cL_isSold 191 = .ok (.iload 9, 2) := by decide +kernel
theorem dL_isSold_193 : decode cL_isSold 193 = .ok (.iload_n 3, 1) := by decide +kernel
theorem dL_isSold_194 : decode cL_isSold 194 = .ok (.invokestatic 138, 3) := by decide +kernel
theorem dL_isSold_197 : decode cL_isSold 197 = .ok (.iconst (-1), 1) := by decide +kernel
theorem dL_isSold_198 : decode cL_isSold 198 = .ok (.if_icmp .ne 39, 3) := by decide +kernel
theorem dL_isSold_201 : decode cL_isSold 201 = .ok (.iload 10, 2) := by decide +kernel
theorem dL_isSold_203 : decode cL_isSold 203 = .ok (.iload 5, 2) := by decide +kernel
theorem dL_isSold_205 : decode cL_isSold 205 = .ok (.if_icmp .gt 32, 3) := by decide +kernel
theorem dL_isSold_208 : decode cL_isSold 208 = .ok (.iload 10, 2) := by decide +kernel
theorem dL_isSold_210 : decode cL_isSold 210 = .ok (.aload_n 0, 1) := by decide +kernel
theorem dL_isSold_211 : decode cL_isSold 211 = .ok (.bipush 10, 2) := by decide +kernel
theorem dL_isSold_213 : decode cL_isSold 213 = .ok (.iload 9, 2) := by decide +kernel
theorem dL_isSold_215 : decode cL_isSold 215 = .ok (.aload_n 1, 1) := by decide +kernel
theorem dL_isSold_216 : decode cL_isSold 216 = .ok (.sipush 170, 3) := by decide +kernel
theorem dL_isSold_219 : decode cL_isSold 219 = .ok (.iload 9, 2) := by decide +kernel
theorem dL_isSold_221 : decode cL_isSold 221 = .ok (.iadd, 1) := by decide +kernel
theorem dL_isSold_222 : decode cL_isSold 222 = .ok (.bipush 60, 2) := by decide +kernel
theorem dL_isSold_224 : decode cL_isSold 224 = .ok (.invokestatic 134, 3) := by decide +kernel
theorem dL_isSold_227 : decode cL_isSold 227 = .ok (.invokestatic 138, 3) := by decide +kernel
theorem dL_isSold_230 : decode cL_isSold 230 = .ok (.if_icmp .lt 7, 3) := by decide +kernel
theorem dL_isSold_233 : decode cL_isSold 233 = .ok (.iconst 1, 1) := by decide +kernel
theorem dL_isSold_234 : decode cL_isSold 234 = .ok (.goto 4, 3) := by decide +kernel
theorem dL_isSold_237 : decode cL_isSold 237 = .ok (.iconst 0, 1) := by decide +kernel
theorem dL_isSold_238 : decode cL_isSold 238 = .ok (.istore 8, 2) := by decide +kernel
theorem dL_isSold_240 : decode cL_isSold 240 = .ok (.iinc 9 1, 3) := by decide +kernel
theorem dL_isSold_243 : decode cL_isSold 243 = .ok (.goto (-155), 3) := by decide +kernel
theorem dL_isSold_246 : decode cL_isSold 246 = .ok (.iload 8, 2) := by decide +kernel
theorem dL_isSold_248 : decode cL_isSold 248 = .ok (.ifCond .eq 29, 3) := by decide +kernel
theorem dL_isSold_251 : decode cL_isSold 251 = .ok (.iload 6, 2) := by decide +kernel
theorem dL_isSold_253 : decode cL_isSold 253 = .ok (.sipush (-20004), 3) := by decide +kernel
theorem dL_isSold_256 : decode cL_isSold 256 = .ok (.if_icmp .eq 17, 3) := by decide +kernel
theorem dL_isSold_259 : decode cL_isSold 259 = .ok (.iload 7, 2) := by decide +kernel
theorem dL_isSold_261 : decode cL_isSold 261 = .ok (.iload 6, 2) := by decide +kernel
theorem dL_isSold_263 : decode cL_isSold 263 = .ok (.if_icmp .ne 14, 3) := by decide +kernel
theorem dL_isSold_266 : decode cL_isSold 266 = .ok (.aload_n 0, 1) := by decide +kernel
theorem dL_isSold_267 : decode cL_isSold 267 = .ok (.invokevirtual 155, 3) := by decide +kernel
theorem dL_isSold_270 : decode cL_isSold 270 = .ok (.ifCond .lt 7, 3) := by decide +kernel
theorem dL_isSold_273 : decode cL_isSold 273 = .ok (.iconst 1, 1) := by decide +kernel
theorem dL_isSold_274 : decode cL_isSold 274 = .ok (.goto 4, 3) := by decide +kernel
theorem dL_isSold_277 : decode cL_isSold 277 = .ok (.iconst 0, 1) := by decide +kernel
theorem dL_isSold_278 : decode cL_isSold 278 = .ok (.ireturn, 1) := by decide +kernel
theorem dL_isBought_0 : decode cL_isBought 0 = .ok (.aload_n 1, 1) := by decide +kernel
theorem dL_isBought_1 : decode cL_isBought 1 = .ok (.iload_n 2, 1) := by decide +kernel
theorem dL_isBought_2 : decode cL_isBought 2 = .ok (.bipush 9, 2) := by decide +kernel
theorem dL_isBought_4 : decode cL_isBought 4 = .ok (.invokestatic 134, 3) := by decide +kernel
theorem dL_isBought_7 : decode cL_isBought 7 = .ok (.istore_n 3, 1) := by decide +kernel
theorem dL_isBought_8 : decode cL_isBought 8 = .ok (.aload_n 0, 1) := by decide +kernel
theorem dL_isBought_9 : decode cL_isBought 9 = .ok (.bipush 13, 2) := by decide +kernel
theorem dL_isBought_11 : decode cL_isBought 11 = .ok (.iload_n 3, 1) := by decide +kernel
theorem dL_isBought_12 : decode cL_isBought 12 = .ok (.iconst 0, 1) := by decide +kernel
theorem dL_isBought_13 : decode cL_isBought 13 = .ok (.invokestatic 138, 3) := by decide +kernel
theorem dL_isBought_16 : decode cL_isBought 16 = .ok (.istore 4, 2) := by decide +kernel
theorem dL_isBought_18 : decode cL_isBought 18 = .ok (.iconst 0, 1) := by decide +kernel
theorem dL_isBought_19 : decode cL_isBought 19 = .ok (.istore 5, 2) := by decide +kernel
theorem dL_isBought_21 : decode cL_isBought 21 = .ok (.iload 4, 2) := by decide +kernel
theorem dL_isBought_23 : decode cL_isBought 23 = .ok (.iload_n 3, 1) := by decide +kernel
theorem dL_isBought_24 : decode cL_isBought 24 = .ok (.if_icmp .gt 7, 3) := by decide +kernel
theorem dL_isBought_27 : decode cL_isBought 27 = .ok (.iconst 1, 1) := by decide +kernel
theorem dL_isBought_28 : decode cL_isBought 28 = .ok (.goto 4, 3) := by decide +kernel
theorem dL_isBought_31 : decode cL_isBought 31 = .ok (.iconst 0, 1) := by decide +kernel
theorem dL_isBought_32 : decode cL_isBought 32 = .ok (.istore 6, 2) := by decide +kernel
theorem dL_isBought_34 : decode cL_isBought 34 = .ok (.iconst 0, 1) := by decide +kernel
theorem dL_isBought_35 : decode cL_isBought 35 = .ok (.istore 7, 2) := by decide +kernel
theorem dL_isBought_37 : decode cL_isBought 37 = .ok (.aload_n 0, 1) := by decide +kernel
theorem dL_isBought_38 : decode cL_isBought 38 = .ok (.bipush 30, 2) := by decide +kernel
theorem dL_isBought_40 : decode cL_isBought 40 = .ok (.iload 7, 2) := by decide +kernel
theorem dL_isBought_42 : decode cL_isBought 42 = .ok (.iconst 0, 1) := by decide +kernel
theorem dL_isBought_43 : decode cL_isBought 43 = .ok (.invokestatic 138, 3) := by decide +kernel
theorem dL_isBought_46 : decode cL_isBought 46 = .ok (.sipush (-20001), 3) := by decide +kernel
theorem dL_isBought_49 : decode cL_isBought 49 = .ok (.if_icmp .eq 119, 3) := by decide +kernel
theorem dL_isBought_52 : decode cL_isBought 52 = .ok (.iload 6, 2) := by decide +kernel
theorem dL_isBought_54 : decode cL_isBought 54 = .ok (.ifCond .eq 114, 3) := by decide +kernel
theorem dL_isBought_57 : decode cL_isBought 57 = .ok (.aload_n 0, 1) := by decide +kernel
theorem dL_isBought_58 : decode cL_isBought 58 = .ok (.bipush 30, 2) := by decide +kernel
theorem dL_isBought_60 : decode cL_isBought 60 = .ok (.iload 7, 2) := by decide +kernel
theorem dL_isBought_62 : decode cL_isBought 62 = .ok (.iconst 0, 1) := by decide +kernel
theorem dL_isBought_63 : decode cL_isBought 63 = .ok (.invokestatic 138, 3) := by decide +kernel
theorem dL_isBought_66 : decode cL_isBought 66 = .ok (.istore 8, 2) := by decide +kernel
theorem dL_isBought_68 : decode cL_isBought 68 = .ok (.iconst 0, 1) := by decide +kernel
theorem dL_isBought_69 : decode cL_isBought 69 = .ok (.istore 9, 2) := by decide +kernel
theorem dL_isBought_71 : decode cL_isBought 71 = .ok (.iconst 0, 1) := by decide +kernel
theorem dL_isBought_72 : decode cL_isBought 72 = .ok (.istore 10, 2) := by decide +kernel
theorem dL_isBought_74 : decode cL_isBought 74 = .ok (.iload 10, 2) := by decide +kernel
theorem dL_isBought_76 : decode cL_isBought 76 = .ok (.iload 8, 2) := by decide +kernel
theorem dL_isBought_78 : decode cL_isBought 78 = .ok (.if_icmp .ge 33, 3) := by decide +kernel
theorem dL_isBought_81 : decode cL_isBought 81 = .ok (.iload 9, 2) := by decide +kernel
theorem dL_isBought_83 : decode cL_isBought 83 = .ok (.aload_n 1, 1) := by decide +kernel
theorem dL_isBought_84 : decode cL_isBought 84 = .ok (.sipush 190, 3) := by decide +kernel
theorem dL_isBought_87 : decode cL_isBought 87 = .ok (.iconst 3, 1) := by decide +kernel
theorem dL_isBought_88 : decode cL_isBought 88 = .ok (.iload 7, 2) := by decide +kernel
theorem dL_isBought_90 : decode cL_isBought 90 = .ok (.imul, 1) := by decide +kernel
theorem dL_isBought_91 : decode cL_isBought 91 = .ok (.iadd, 1) := by decide +kernel
theorem dL_isBought_92 : decode cL_isBought 92 = .ok (.bipush 90, 2) := by decide +kernel
theorem dL_isBought_94 : decode cL_isBought 94 = .ok (.invokestatic 134, 3) := by decide +kernel
theorem dL_isBought_97 : decode cL_isBought 97 = .ok (.iload 10, 2) := by decide +kernel
theorem dL_isBought_99 : decode cL_isBought 99 = .ok (.iconst 1, 1) := by decide +kernel
theorem dL_isBought_100 : decode cL_isBought 100 = .ok (.iadd, 1) := by decide +kernel
theorem dL_isBought_101 : decode cL_isBought 101 = .ok (.idiv, 1) := by decide +kernel
theorem dL_isBought_102 : decode cL_isBought 102 = .ok (.iadd, 1) := by decide +kernel
theorem dL_isBought_103 : decode cL_isBought 103 = .ok (.istore 9, 2) := by decide +kernel
theorem dL_isBought_105 : decode cL_isBought 105 = .ok (.iinc 10 1, 3) := by decide +kernel
theorem dL_isBought_108 : decode cL_isBought 108 = .ok (.goto (-34), 3) := by decide +kernel
theorem dL_isBought_111 : decode cL_isBought 111 = .ok (.iload 5, 2) := by decide +kernel
theorem dL_isBought_113 : decode cL_isBought 113 = .ok (.iload 8, 2) := by decide +kernel
theorem dL_isBought_115 : decode cL_isBought 115 = .ok (.iadd, 1) := by decide +kernel
theorem dL_isBought_116 : decode cL_isBought 116 = .ok (.istore 5, 2) := by decide +kernel
theorem dL_isBought_118 : decode cL_isBought 118 = .ok (.iload 8, 2) := by decide +kernel
theorem dL_isBought_120 : decode cL_isBought 120 = .ok (.ifCond .lt 39, 3) := by decide +kernel
theorem dL_isBought_123 : decode cL_isBought 123 = .ok (.iload 8, 2) := by decide +kernel
theorem dL_isBought_125 : decode cL_isBought 125 = .ok (.iconst 3, 1) := by decide +kernel
theorem dL_isBought_126 : decode cL_isBought 126 = .ok (.if_icmp .gt 33, 3) := by decide +kernel
theorem dL_isBought_129 : decode cL_isBought 129 = .ok (.aload_n 0, 1) := by decide +kernel
theorem dL_isBought_130 : decode cL_isBought 130 = .ok (.bipush 31, 2) := by decide +kernel
theorem dL_isBought_132 : decode cL_isBought 132 = .ok (.iload 7, 2) := by decide +kernel
theorem dL_isBought_134 : decode cL_isBought 134 = .ok (.iconst 0, 1) := by decide +kernel
theorem dL_isBought_135 : decode cL_isBought 135 = .ok (.invokestatic 138, 3) := by decide +kernel
theorem dL_isBought_138 : decode cL_isBought 138 = .ok (.ifCond .lt 21, 3) := by decide +kernel
theorem dL_isBought_141 : decode cL_isBought 141 = .ok (.aload_n 0, 1) := by decide +kernel
theorem dL_isBought_142 : decode cL_isBought 142 = .ok (.bipush 31, 2) := by decide +kernel
theorem dL_isBought_144 : decode cL_isBought 144 = .ok (.iload 7, 2) := by decide +kernel
theorem dL_isBought_146 : decode cL_isBought 146 = .ok (.iconst 0, 1) := by decide +kernel
theorem dL_isBought_147 : decode cL_isBought 147 = .ok (.invokestatic 138, 3) := by decide +kernel
theorem dL_isBought_150 : decode cL_isBought 150 = .ok (.iload 9, 2) := by decide +kernel
theorem dL_isBought_152 : decode cL_isBought 152 = .ok (.if_icmp .gt 7, 3) := by decide +kernel
theorem dL_isBought_155 : decode cL_isBought 155 = .ok (.iconst 1, 1) := by decide +kernel
theorem dL_isBought_156 : decode cL_isBought 156 = .ok (.goto 4, 3) := by decide +kernel
theorem dL_isBought_159 : decode cL_isBought 159 = .ok (.iconst 0, 1) := by decide +kernel
theorem dL_isBought_160 : decode cL_isBought 160 = .ok (.istore 6, 2) := by decide +kernel
theorem dL_isBought_162 : decode cL_isBought 162 = .ok (.iinc 7 1, 3) := by decide +kernel
theorem dL_isBought_165 : decode cL_isBought 165 = .ok (.goto (-128), 3) := by decide +kernel
theorem dL_isBought_168 : decode cL_isBought 168 = .ok (.iload 6, 2) := by decide +kernel
theorem dL_isBought_170 : decode cL_isBought 170 = .ok (.ifCond .eq 14, 3) := by decide +kernel
theorem dL_isBought_173 : decode cL_isBought 173 = .ok (.iload 5, 2) := by decide +kernel
theorem dL_isBought_175 : decode cL_isBought 175 = .ok (.iload 4, 2) := by decide +kernel
theorem dL_isBought_177 : decode cL_isBought 177 = .ok (.if_icmp .ne 7, 3) := by decide +kernel
theorem dL_isBought_180 : decode cL_isBought 180 = .ok (.iconst 1, 1) := by decide +kernel
theorem dL_isBought_181 : decode cL_isBought 181 = .ok (.goto 4, 3) := by decide +kernel
theorem dL_isBought_184 : decode cL_isBought 184 = .ok (.iconst 0, 1) := by decide +kernel
theorem dL_isBought_185 : decode cL_isBought 185 = .ok (.ireturn, 1) := by decide +kernel
theorem dL_isMoved_0 : decode cL_isMoved 0 = .ok (.aload_n 0, 1) := by decide +kernel
theorem dL_isMoved_1 : decode cL_isMoved 1 = .ok (.bipush 14, 2) := by decide +kernel
theorem dL_isMoved_3 : decode cL_isMoved 3 = .ok (.iconst 1, 1) := by decide +kernel
theorem dL_isMoved_4 : decode cL_isMoved 4 = .ok (.aload_n 1, 1) := by decide +kernel
theorem dL_isMoved_5 : decode cL_isMoved 5 = .ok (.iload_n 2, 1) := by decide +kernel
theorem dL_isMoved_6 : decode cL_isMoved 6 = .ok (.iconst 4, 1) := by decide +kernel
theorem dL_isMoved_7 : decode cL_isMoved 7 = .ok (.invokestatic 134, 3) := by decide +kernel
theorem dL_isMoved_10 : decode cL_isMoved 10 = .ok (.iadd, 1) := by decide +kernel
theorem dL_isMoved_11 : decode cL_isMoved 11 = .ok (.iconst 0, 1) := by decide +kernel
theorem dL_isMoved_12 : decode cL_isMoved 12 = .ok (.invokestatic 138, 3) := by decide +kernel
theorem dL_isMoved_15 : decode cL_isMoved 15 = .ok (.istore 4, 2) := by decide +kernel
theorem dL_isMoved_17 : decode cL_isMoved 17 = .ok (.iload 4, 2) := by decide +kernel
theorem dL_isMoved_19 : decode cL_isMoved 19 = .ok (.ifCond .ge 11, 3) := by decide +kernel
theorem dL_isMoved_22 : decode cL_isMoved 22 = .ok (.iload 4, 2) := by decide +kernel
theorem dL_isMoved_24 : decode cL_isMoved 24 = .ok (.sipush (-20004), 3) := by decide +kernel
theorem dL_isMoved_27 : decode cL_isMoved 27 = .ok (.if_icmp .ne 7, 3) := by decide +kernel
theorem dL_isMoved_30 : decode cL_isMoved 30 = .ok (.iconst 1, 1) := by decide +kernel
theorem dL_isMoved_31 : decode cL_isMoved 31 = .ok (.goto 4, 3) := by decide +kernel
theorem dL_isMoved_34 : decode cL_isMoved 34 = .ok (.iconst 0, 1) := by decide +kernel
theorem dL_isMoved_35 : decode cL_isMoved 35 = .ok (.istore 5, 2) := by decide +kernel
theorem dL_isMoved_37 : decode cL_isMoved 37 = .ok (.iconst 0, 1) := by decide +kernel
theorem dL_isMoved_38 : decode cL_isMoved 38 = .ok (.istore 6, 2) := by decide +kernel
theorem dL_isMoved_40 : decode cL_isMoved 40 = .ok (.iload 6, 2) := by decide +kernel
theorem dL_isMoved_42 : decode cL_isMoved 42 = .ok (.bipush 6, 2) := by decide +kernel
theorem dL_isMoved_44 : decode cL_isMoved 44 = .ok (.if_icmp .ge 79, 3) := by decide +kernel
theorem dL_isMoved_47 : decode cL_isMoved 47 = .ok (.iload 5, 2) := by decide +kernel
theorem dL_isMoved_49 : decode cL_isMoved 49 = .ok (.ifCond .eq 74, 3) := by decide +kernel
theorem dL_isMoved_52 : decode cL_isMoved 52 = .ok (.iload 4, 2) := by decide +kernel
theorem dL_isMoved_54 : decode cL_isMoved 54 = .ok (.ifCond .lt 69, 3) := by decide +kernel
theorem dL_isMoved_57 : decode cL_isMoved 57 = .ok (.aload_n 0, 1) := by decide +kernel
theorem dL_isMoved_58 : decode cL_isMoved 58 = .ok (.bipush 32, 2) := by decide +kernel
theorem dL_isMoved_60 : decode cL_isMoved 60 = .ok (.iload 6, 2) := by decide +kernel
theorem dL_isMoved_62 : decode cL_isMoved 62 = .ok (.iconst 0, 1) := by decide +kernel
theorem dL_isMoved_63 : decode cL_isMoved 63 = .ok (.invokestatic 138, 3) := by decide +kernel
theorem dL_isMoved_66 : decode cL_isMoved 66 = .ok (.istore 7, 2) := by decide +kernel
theorem dL_isMoved_68 : decode cL_isMoved 68 = .ok (.iload 7, 2) := by decide +kernel
theorem dL_isMoved_70 : decode cL_isMoved 70 = .ok (.sipush (-20005), 3) := by decide +kernel
theorem dL_isMoved_73 : decode cL_isMoved 73 = .ok (.if_icmp .eq 37, 3) := by decide +kernel
theorem dL_isMoved_76 : decode cL_isMoved 76 = .ok (.iload 7, 2) := by decide +kernel
theorem dL_isMoved_78 : decode cL_isMoved 78 = .ok (.ifCond .lt 36, 3) := by decide +kernel
theorem dL_isMoved_81 : decode cL_isMoved 81 = .ok (.iload 7, 2) := by decide +kernel
theorem dL_isMoved_83 : decode cL_isMoved 83 = .ok (.iload 4, 2) := by decide +kernel
theorem dL_isMoved_85 : decode cL_isMoved 85 = .ok (.if_icmp .gt 29, 3) := by decide +kernel
theorem dL_isMoved_88 : decode cL_isMoved 88 = .ok (.aload_n 0, 1) := by decide +kernel
theorem dL_isMoved_89 : decode cL_isMoved 89 = .ok (.bipush 25, 2) := by decide +kernel
theorem dL_isMoved_91 : decode cL_isMoved 91 = .ok (.iload 6, 2) := by decide +kernel
theorem dL_isMoved_93 : decode cL_isMoved 93 = .ok (.iload_n 3, 1) := by decide +kernel
theorem dL_isMoved_94 : decode cL_isMoved 94 = .ok (.invokestatic 138, 3) := by decide +kernel
theorem dL_isMoved_97 : decode cL_isMoved 97 = .ok (.iconst (-1), 1) := by decide +kernel
theorem dL_isMoved_98 : decode cL_isMoved 98 = .ok (.if_icmp .eq 16, 3) := by decide +kernel
theorem dL_isMoved_101 : decode cL_isMoved 101 = .ok (.aload_n 1, 1) := by decide +kernel
theorem dL_isMoved_102 : decode cL_isMoved 102 = .ok (.iload 6, 2) := by decide +kernel
theorem dL_isMoved_104 : decode cL_isMoved 104 = .ok (.invokestatic 146, 3) := by decide +kernel
theorem dL_isMoved_107 : decode cL_isMoved 107 = .ok (.ifCond .eq 7, 3) := by decide +kernel
theorem dL_isMoved_110 : decode cL_isMoved 110 = .ok (.iconst 1, 1) := by decide +kernel
theorem dL_isMoved_111 : decode cL_isMoved 111 = .ok (.goto 4, 3) := by decide +kernel
theorem dL_isMoved_114 : decode cL_isMoved 114 = .ok (.iconst 0, 1) := by decide +kernel
theorem dL_isMoved_115 : decode cL_isMoved 115 = .ok (.istore 5, 2) := by decide +kernel
theorem dL_isMoved_117 : decode cL_isMoved 117 = .ok (.iinc 6 1, 3) := by decide +kernel
theorem dL_isMoved_120 : decode cL_isMoved 120 = .ok (.goto (-80), 3) := by decide +kernel
theorem dL_isMoved_123 : decode cL_isMoved 123 = .ok (.iload 5, 2) := by decide +kernel
theorem dL_isMoved_125 : decode cL_isMoved 125 = .ok (.ifCond .eq 21, 3) := by decide +kernel
theorem dL_isMoved_128 : decode cL_isMoved 128 = .ok (.iload 4, 2) := by decide +kernel
theorem dL_isMoved_130 : decode cL_isMoved 130 = .ok (.ifCond .lt 12, 3) := by decide +kernel
theorem dL_isMoved_133 : decode cL_isMoved 133 = .ok (.aload_n 0, 1) := by decide +kernel
theorem dL_isMoved_134 : decode cL_isMoved 134 = .ok (.invokevirtual 159, 3) := by decide +kernel
theorem dL_isMoved_137 : decode cL_isMoved 137 = .ok (.iload 4, 2) := by decide +kernel
theorem dL_isMoved_139 : decode cL_isMoved 139 = .ok (.if_icmp .gt 7, 3) := by decide +kernel
theorem dL_isMoved_142 : decode cL_isMoved 142 = .ok (.iconst 1, 1) := by decide +kernel
theorem dL_isMoved_143 : decode cL_isMoved 143 = .ok (.goto 4, 3) := by decide +kernel
theorem dL_isMoved_146 : decode cL_isMoved 146 = .ok (.iconst 0, 1) := by decide +kernel
theorem dL_isMoved_147 : decode cL_isMoved 147 = .ok (.ireturn, 1) := by decide +kernel
theorem dL_law_0 : decode cL_law 0 = .ok (.new 16, 3) := by decide +kernel
theorem dL_law_3 : decode cL_law 3 = .ok (.dup, 1) := by decide +kernel
theorem dL_law_4 : decode cL_law 4 = .ok (.invokespecial 162, 3) := by decide +kernel
theorem dL_law_7 : decode cL_law 7 = .ok (.astore_n 1, 1) := by decide +kernel
theorem dL_law_8 : decode cL_law 8 = .ok (.aload_n 1, 1) := by decide +kernel
theorem dL_law_9 : decode cL_law 9 = .ok (.aload_n 0, 1) := by decide +kernel
theorem dL_law_10 : decode cL_law 10 = .ok (.invokestatic 163, 3) := by decide +kernel
theorem dL_law_13 : decode cL_law 13 = .ok (.iconst 0, 1) := by decide +kernel
theorem dL_law_14 : decode cL_law 14 = .ok (.istore_n 2, 1) := by decide +kernel
theorem dL_law_15 : decode cL_law 15 = .ok (.iload_n 2, 1) := by decide +kernel
theorem dL_law_16 : decode cL_law 16 = .ok (.iconst 4, 1) := by decide +kernel
theorem dL_law_17 : decode cL_law 17 = .ok (.if_icmp .ge 38, 3) := by decide +kernel
theorem dL_law_20 : decode cL_law 20 = .ok (.aload_n 0, 1) := by decide +kernel
theorem dL_law_21 : decode cL_law 21 = .ok (.sipush 190, 3) := by decide +kernel
theorem dL_law_24 : decode cL_law 24 = .ok (.iconst 3, 1) := by decide +kernel
theorem dL_law_25 : decode cL_law 25 = .ok (.iload_n 2, 1) := by decide +kernel
theorem dL_law_26 : decode cL_law 26 = .ok (.imul, 1) := by decide +kernel
theorem dL_law_27 : decode cL_law 27 = .ok (.iadd, 1) := by decide +kernel
theorem dL_law_28 : decode cL_law 28 = .ok (.bipush 90, 2) := by decide +kernel
theorem dL_law_30 : decode cL_law 30 = .ok (.invokestatic 134, 3) := by decide +kernel
theorem dL_law_33 : decode cL_law 33 = .ok (.istore_n 3, 1) := by decide +kernel
theorem dL_law_34 : decode cL_law 34 = .ok (.aload_n 1, 1) := by decide +kernel
theorem dL_law_35 : decode cL_law 35 = .ok (.bipush 12, 2) := by decide +kernel
theorem dL_law_37 : decode cL_law 37 = .ok (.iload_n 3, 1) := by decide +kernel
theorem dL_law_38 : decode cL_law 38 = .ok (.iload_n 3, 1) := by decide +kernel
theorem dL_law_39 : decode cL_law 39 = .ok (.iconst 2, 1) := by decide +kernel
theorem dL_law_40 : decode cL_law 40 = .ok (.idiv, 1) := by decide +kernel
theorem dL_law_41 : decode cL_law 41 = .ok (.iload_n 3, 1) := by decide +kernel
theorem dL_law_42 : decode cL_law 42 = .ok (.iconst 3, 1) := by decide +kernel
theorem dL_law_43 : decode cL_law 43 = .ok (.idiv, 1) := by decide +kernel
theorem dL_law_44 : decode cL_law 44 = .ok (.iconst 0, 1) := by decide +kernel
theorem dL_law_45 : decode cL_law 45 = .ok (.invokestatic 131, 3) := by decide +kernel
theorem dL_law_48 : decode cL_law 48 = .ok (.pop, 1) := by decide +kernel
theorem dL_law_49 : decode cL_law 49 = .ok (.iinc 2 1, 3) := by decide +kernel
theorem dL_law_52 : decode cL_law 52 = .ok (.goto (-37), 3) := by decide +kernel
theorem dL_law_55 : decode cL_law 55 = .ok (.aload_n 1, 1) := by decide +kernel
theorem dL_law_56 : decode cL_law 56 = .ok (.invokestatic 167, 3) := by decide +kernel
theorem dL_law_59 : decode cL_law 59 = .ok (.ifCond .eq 15, 3) := by decide +kernel
theorem dL_law_62 : decode cL_law 62 = .ok (.aload_n 1, 1) := by decide +kernel
theorem dL_law_63 : decode cL_law 63 = .ok (.aload_n 0, 1) := by decide +kernel
theorem dL_law_64 : decode cL_law 64 = .ok (.invokestatic 171, 3) := by decide +kernel
theorem dL_law_67 : decode cL_law 67 = .ok (.ifCond .eq 7, 3) := by decide +kernel
theorem dL_law_70 : decode cL_law 70 = .ok (.iconst 1, 1) := by decide +kernel
theorem dL_law_71 : decode cL_law 71 = .ok (.goto 4, 3) := by decide +kernel
theorem dL_law_74 : decode cL_law 74 = .ok (.iconst 0, 1) := by decide +kernel
theorem dL_law_75 : decode cL_law 75 = .ok (.istore_n 2, 1) := by decide +kernel
theorem dL_law_76 : decode cL_law 76 = .ok (.iconst 0, 1) := by decide +kernel
theorem dL_law_77 : decode cL_law 77 = .ok (.istore_n 3, 1) := by decide +kernel
theorem dL_law_78 : decode cL_law 78 = .ok (.iconst 0, 1) := by decide +kernel
theorem dL_law_79 : decode cL_law 79 = .ok (.istore 4, 2) := by decide +kernel
theorem dL_law_81 : decode cL_law 81 = .ok (.iconst 0, 1) := by decide +kernel
theorem dL_law_82 : decode cL_law 82 = .ok (.istore 5, 2) := by decide +kernel
theorem dL_law_84 : decode cL_law 84 = .ok (.iload 5, 2) := by decide +kernel
theorem dL_law_86 : decode cL_law 86 = .ok (.bipush 40, 2) := by decide +kernel
theorem dL_law_88 : decode cL_law 88 = .ok (.if_icmp .ge 487, 3) := by decide +kernel
theorem dL_law_91 : decode cL_law 91 = .ok (.iload_n 2, 1) := by decide +kernel
theorem dL_law_92 : decode cL_law 92 = .ok (.ifCond .eq 483, 3) := by decide +kernel
theorem dL_law_95 : decode cL_law 95 = .ok (.sipush 210, 3) := by decide +kernel
theorem dL_law_98 : decode cL_law 98 = .ok (.bipush 6, 2) := by decide +kernel
theorem dL_law_100 : decode cL_law 100 = .ok (.iload 5, 2) := by decide +kernel
theorem dL_law_102 : decode cL_law 102 = .ok (.imul, 1) := by decide +kernel
theorem dL_law_103 : decode cL_law 103 = .ok (.iadd, 1) := by decide +kernel
theorem dL_law_104 : decode cL_law 104 = .ok (.istore 6, 2) := by decide +kernel
theorem dL_law_106 : decode cL_law 106 = .ok (.aload_n 0, 1) := by decide +kernel
theorem dL_law_107 : decode cL_law 107 = .ok (.iload 6, 2) := by decide +kernel
theorem dL_law_109 : decode cL_law 109 = .ok (.iconst 1, 1) := by decide +kernel
theorem dL_law_110 : decode cL_law 110 = .ok (.iadd, 1) := by decide +kernel
theorem dL_law_111 : decode cL_law 111 = .ok (.bipush 6, 2) := by decide +kernel
theorem dL_law_113 : decode cL_law 113 = .ok (.invokestatic 134, 3) := by decide +kernel
theorem dL_law_116 : decode cL_law 116 = .ok (.istore 7, 2) := by decide +kernel
theorem dL_law_118 : decode cL_law 118 = .ok (.aload_n 0, 1) := by decide +kernel
theorem dL_law_119 : decode cL_law 119 = .ok (.iload 6, 2) := by decide +kernel
theorem dL_law_121 : decode cL_law 121 = .ok (.iconst 2, 1) := by decide +kernel
theorem dL_law_122 : decode cL_law 122 = .ok (.iadd, 1) := by decide +kernel
theorem dL_law_123 : decode cL_law 123 = .ok (.bipush 8, 2) := by decide +kernel
theorem dL_law_125 : decode cL_law 125 = .ok (.invokestatic 134, 3) := by decide +kernel
theorem dL_law_128 : decode cL_law 128 = .ok (.istore 8, 2) := by decide +kernel
theorem dL_law_130 : decode cL_law 130 = .ok (.aload_n 1, 1) := by decide +kernel
theorem dL_law_131 : decode cL_law 131 = .ok (.bipush 25, 2) := by decide +kernel
theorem dL_law_133 : decode cL_law 133 = .ok (.iload 7, 2) := by decide +kernel
theorem dL_law_135 : decode cL_law 135 = .ok (.iload 4, 2) := by decide +kernel
theorem dL_law_137 : decode cL_law 137 = .ok (.invokestatic 138, 3) := by decide +kernel
theorem dL_law_140 : decode cL_law 140 = .ok (.istore 9, 2) := by decide +kernel
theorem dL_law_142 : decode cL_law 142 = .ok (.aload_n 0, 1) := by decide +kernel
theorem dL_law_143 : decode cL_law 143 = .ok (.iload 6, 2) := by decide +kernel
theorem dL_law_145 : decode cL_law 145 = .ok (.bipush 12, 2) := by decide +kernel
theorem dL_law_147 : decode cL_law 147 = .ok (.invokestatic 134, 3) := by decide +kernel
theorem dL_law_150 : decode cL_law 150 = .ok (.tableswitch 301 0 8 #[50, 50, 50, 50, 143, 179, 244, 259, 272], 50) := by decide +kernel
theorem dL_law_200 : decode cL_law 200 = .ok (.aload_n 1, 1) := by decide +kernel
theorem dL_law_201 : decode cL_law 201 = .ok (.iconst 4, 1) := by decide +kernel
theorem dL_law_202 : decode cL_law 202 = .ok (.iload 7, 2) := by decide +kernel
theorem dL_law_204 : decode cL_law 204 = .ok (.iload 8, 2) := by decide +kernel
theorem dL_law_206 : decode cL_law 206 = .ok (.invokestatic 138, 3) := by decide +kernel
theorem dL_law_209 : decode cL_law 209 = .ok (.istore 10, 2) := by decide +kernel
theorem dL_law_211 : decode cL_law 211 = .ok (.iload 10, 2) := by decide +kernel
theorem dL_law_213 : decode cL_law 213 = .ok (.ifCond .lt 40, 3) := by decide +kernel
theorem dL_law_216 : decode cL_law 216 = .ok (.aload_n 1, 1) := by decide +kernel
theorem dL_law_217 : decode cL_law 217 = .ok (.bipush 25, 2) := by decide +kernel
theorem dL_law_219 : decode cL_law 219 = .ok (.iload 7, 2) := by decide +kernel
theorem dL_law_221 : decode cL_law 221 = .ok (.iload 4, 2) := by decide +kernel
theorem dL_law_223 : decode cL_law 223 = .ok (.invokestatic 138, 3) := by decide +kernel
theorem dL_law_226 : decode cL_law 226 = .ok (.iload 8, 2) := by decide +kernel
theorem dL_law_228 : decode cL_law 228 = .ok (.if_icmp .ne 21, 3) := by decide +kernel
theorem dL_law_231 : decode cL_law 231 = .ok (.iload 10, 2) := by decide +kernel
theorem dL_law_233 : decode cL_law 233 = .ok (.ifCond .eq 12, 3) := by decide +kernel
theorem dL_law_236 : decode cL_law 236 = .ok (.aload_n 0, 1) := by decide +kernel
theorem dL_law_237 : decode cL_law 237 = .ok (.iload 7, 2) := by decide +kernel
theorem dL_law_239 : decode cL_law 239 = .ok (.invokestatic 146, 3) := by decide +kernel
theorem dL_law_242 : decode cL_law 242 = .ok (.ifCond .eq 7, 3) := by decide +kernel
theorem dL_law_245 : decode cL_law 245 = .ok (.iconst 1, 1) := by decide +kernel
theorem dL_law_246 : decode cL_law 246 = .ok (.goto 43, 3) := by decide +kernel
theorem dL_law_249 : decode cL_law 249 = .ok (.iconst 0, 1) := by decide +kernel
theorem dL_law_250 : decode cL_law 250 = .ok (.goto 39, 3) := by decide +kernel
theorem dL_law_253 : decode cL_law 253 = .ok (.aload_n 1, 1) := by decide +kernel
theorem dL_law_254 : decode cL_law 254 = .ok (.bipush 25, 2) := by decide +kernel
theorem dL_law_256 : decode cL_law 256 = .ok (.iload 7, 2) := by decide +kernel
theorem dL_law_258 : decode cL_law 258 = .ok (.iload 4, 2) := by decide +kernel
theorem dL_law_260 : decode cL_law 260 = .ok (.invokestatic 138, 3) := by decide +kernel
theorem dL_law_263 : decode cL_law 263 = .ok (.iload 9, 2) := by decide +kernel
theorem dL_law_265 : decode cL_law 265 = .ok (.if_icmp .ne 23, 3) := by decide +kernel
theorem dL_law_268 : decode cL_law 268 = .ok (.iload 10, 2) := by decide +kernel
theorem dL_law_270 : decode cL_law 270 = .ok (.sipush (-20004), 3) := by decide +kernel
theorem dL_law_273 : decode cL_law 273 = .ok (.if_icmp .eq 11, 3) := by decide +kernel
theorem dL_law_276 : decode cL_law 276 = .ok (.iload 10, 2) := by decide +kernel
theorem dL_law_278 : decode cL_law 278 = .ok (.sipush (-20003), 3) := by decide +kernel
theorem dL_law_281 : decode cL_law 281 = .ok (.if_icmp .ne 7, 3) := by decide +kernel
theorem dL_law_284 : decode cL_law 284 = .ok (.iconst 1, 1) := by decide +kernel
theorem dL_law_285 : decode cL_law 285 = .ok (.goto 4, 3) := by decide +kernel
theorem dL_law_288 : decode cL_law 288 = .ok (.iconst 0, 1) := by decide +kernel
theorem dL_law_289 : decode cL_law 289 = .ok (.istore_n 2, 1) := by decide +kernel
theorem dL_law_290 : decode cL_law 290 = .ok (.goto 258, 3) := by decide +kernel
theorem dL_law_293 : decode cL_law 293 = .ok (.aload_n 1, 1) := by decide +kernel
theorem dL_law_294 : decode cL_law 294 = .ok (.iconst 5, 1) := by decide +kernel
theorem dL_law_295 : decode cL_law 295 = .ok (.iload 7, 2) := by decide +kernel
theorem dL_law_297 : decode cL_law 297 = .ok (.iconst 0, 1) := by decide +kernel
theorem dL_law_298 : decode cL_law 298 = .ok (.invokestatic 138, 3) := by decide +kernel
theorem dL_law_301 : decode cL_law 301 = .ok (.iload 9, 2) := by decide +kernel
theorem dL_law_303 : decode cL_law 303 = .ok (.if_icmp .ne 21, 3) := by decide +kernel
theorem dL_law_306 : decode cL_law 306 = .ok (.aload_n 1, 1) := by decide +kernel
theorem dL_law_307 : decode cL_law 307 = .ok (.bipush 25, 2) := by decide +kernel
theorem dL_law_309 : decode cL_law 309 = .ok (.iload 7, 2) := by decide +kernel
theorem dL_law_311 : decode cL_law 311 = .ok (.iload 4, 2) := by decide +kernel
theorem dL_law_313 : decode cL_law 313 = .ok (.invokestatic 138, 3) := by decide +kernel
theorem dL_law_316 : decode cL_law 316 = .ok (.iconst (-1), 1) := by decide +kernel
theorem dL_law_317 : decode cL_law 317 = .ok (.if_icmp .ne 7, 3) := by decide +kernel
theorem dL_law_320 : decode cL_law 320 = .ok (.iconst 1, 1) := by decide +kernel
theorem dL_law_321 : decode cL_law 321 = .ok (.goto 4, 3) := by decide +kernel
theorem dL_law_324 : decode cL_law 324 = .ok (.iconst 0, 1) := by decide +kernel
theorem dL_law_325 : decode cL_law 325 = .ok (.istore_n 2, 1) := by decide +kernel
theorem dL_law_326 : decode cL_law 326 = .ok (.goto 222, 3) := by decide +kernel
theorem dL_law_329 : decode cL_law 329 = .ok (.aload_n 1, 1) := by decide +kernel
theorem dL_law_330 : decode cL_law 330 = .ok (.bipush 7, 2) := by decide +kernel
theorem dL_law_332 : decode cL_law 332 = .ok (.iload 7, 2) := by decide +kernel
theorem dL_law_334 : decode cL_law 334 = .ok (.iload 8, 2) := by decide +kernel
theorem dL_law_336 : decode cL_law 336 = .ok (.invokestatic 138, 3) := by decide +kernel
theorem dL_law_339 : decode cL_law 339 = .ok (.iload 4, 2) := by decide +kernel
theorem dL_law_341 : decode cL_law 341 = .ok (.iconst 3, 1) := by decide +kernel
theorem dL_law_342 : decode cL_law 342 = .ok (.iadd, 1) := by decide +kernel
theorem dL_law_343 : decode cL_law 343 = .ok (.if_icmp .ne 46, 3) := by decide +kernel
theorem dL_law_346 : decode cL_law 346 = .ok (.aload_n 1, 1) := by decide +kernel
theorem dL_law_347 : decode cL_law 347 = .ok (.bipush 26, 2) := by decide +kernel
theorem dL_law_349 : decode cL_law 349 = .ok (.iload 7, 2) := by decide +kernel
theorem dL_law_351 : decode cL_law 351 = .ok (.iload 8, 2) := by decide +kernel
theorem dL_law_353 : decode cL_law 353 = .ok (.invokestatic 138, 3) := by decide +kernel
theorem dL_law_356 : decode cL_law 356 = .ok (.ifCond .ne 33, 3) := by decide +kernel
theorem dL_law_359 : decode cL_law 359 = .ok (.aload_n 0, 1) := by decide +kernel
theorem dL_law_360 : decode cL_law 360 = .ok (.iload 6, 2) := by decide +kernel
theorem dL_law_362 : decode cL_law 362 = .ok (.iconst 3, 1) := by decide +kernel
theorem dL_law_363 : decode cL_law 363 = .ok (.iadd, 1) := by decide +kernel
theorem dL_law_364 : decode cL_law 364 = .ok (.iconst 2, 1) := by decide +kernel
theorem dL_law_365 : decode cL_law 365 = .ok (.invokestatic 134, 3) := by decide +kernel
theorem dL_law_368 : decode cL_law 368 = .ok (.ifCond .eq 17, 3) := by decide +kernel
theorem dL_law_371 : decode cL_law 371 = .ok (.aload_n 1, 1) := by decide +kernel
theorem dL_law_372 : decode cL_law 372 = .ok (.bipush 8, 2) := by decide +kernel
theorem dL_law_374 : decode cL_law 374 = .ok (.iload 7, 2) := by decide +kernel
theorem dL_law_376 : decode cL_law 376 = .ok (.iload 8, 2) := by decide +kernel
theorem dL_law_378 : decode cL_law 378 = .ok (.invokestatic 138, 3) := by decide +kernel
theorem dL_law_381 : decode cL_law 381 = .ok (.iconst 1, 1) := by decide +kernel
theorem dL_law_382 : decode cL_law 382 = .ok (.if_icmp .ne 7, 3) := by decide +kernel
theorem dL_law_385 : decode cL_law 385 = .ok (.iconst 1, 1) := by decide +kernel
theorem dL_law_386 : decode cL_law 386 = .ok (.goto 4, 3) := by decide +kernel
theorem dL_law_389 : decode cL_law 389 = .ok (.iconst 0, 1) := by decide +kernel
theorem dL_law_390 : decode cL_law 390 = .ok (.istore_n 2, 1) := by decide +kernel
theorem dL_law_391 : decode cL_law 391 = .ok (.goto 157, 3) := by decide +kernel
theorem dL_law_394 : decode cL_law 394 = .ok (.aload_n 1, 1) := by decide +kernel
theorem dL_law_395 : decode cL_law 395 = .ok (.aload_n 0, 1) := by decide +kernel
theorem dL_law_396 : decode cL_law 396 = .ok (.iload 6, 2) := by decide +kernel
theorem dL_law_398 : decode cL_law 398 = .ok (.iconst 2, 1) := by decide +kernel
theorem dL_law_399 : decode cL_law 399 = .ok (.iadd, 1) := by decide +kernel
theorem dL_law_400 : decode cL_law 400 = .ok (.iload 4, 2) := by decide +kernel
theorem dL_law_402 : decode cL_law 402 = .ok (.invokestatic 175, 3) := by decide +kernel
theorem dL_law_405 : decode cL_law 405 = .ok (.istore_n 2, 1) := by decide +kernel
theorem dL_law_406 : decode cL_law 406 = .ok (.goto 142, 3) := by decide +kernel
theorem dL_law_409 : decode cL_law 409 = .ok (.aload_n 1, 1) := by decide +kernel
theorem dL_law_410 : decode cL_law 410 = .ok (.aload_n 0, 1) := by decide +kernel
theorem dL_law_411 : decode cL_law 411 = .ok (.iload 6, 2) := by decide +kernel
theorem dL_law_413 : decode cL_law 413 = .ok (.iconst 2, 1) := by decide +kernel
theorem dL_law_414 : decode cL_law 414 = .ok (.iadd, 1) := by decide +kernel
theorem dL_law_415 : decode cL_law 415 = .ok (.invokestatic 179, 3) := by decide +kernel
theorem dL_law_418 : decode cL_law 418 = .ok (.istore_n 2, 1) := by decide +kernel
theorem dL_law_419 : decode cL_law 419 = .ok (.goto 129, 3) := by decide +kernel
theorem dL_law_422 : decode cL_law 422 = .ok (.aload_n 0, 1) := by decide +kernel
theorem dL_law_423 : decode cL_law 423 = .ok (.iload 6, 2) := by decide +kernel
theorem dL_law_425 : decode cL_law 425 = .ok (.iconst 3, 1) := by decide +kernel
theorem dL_law_426 : decode cL_law 426 = .ok (.iadd, 1) := by decide +kernel
theorem dL_law_427 : decode cL_law 427 = .ok (.iconst 3, 1) := by decide +kernel
theorem dL_law_428 : decode cL_law 428 = .ok (.invokestatic 134, 3) := by decide +kernel
theorem dL_law_431 : decode cL_law 431 = .ok (.ifCond .ne 117, 3) := by decide +kernel
theorem dL_law_434 : decode cL_law 434 = .ok (.aload_n 1, 1) := by decide +kernel
theorem dL_law_435 : decode cL_law 435 = .ok (.aload_n 0, 1) := by decide +kernel
theorem dL_law_436 : decode cL_law 436 = .ok (.iload 6, 2) := by decide +kernel
theorem dL_law_438 : decode cL_law 438 = .ok (.iconst 4, 1) := by decide +kernel
theorem dL_law_439 : decode cL_law 439 = .ok (.iadd, 1) := by decide +kernel
theorem dL_law_440 : decode cL_law 440 = .ok (.iload 4, 2) := by decide +kernel
theorem dL_law_442 : decode cL_law 442 = .ok (.invokestatic 183, 3) := by decide +kernel
theorem dL_law_445 : decode cL_law 445 = .ok (.istore_n 2, 1) := by decide +kernel
theorem dL_law_446 : decode cL_law 446 = .ok (.iconst 1, 1) := by decide +kernel
theorem dL_law_447 : decode cL_law 447 = .ok (.istore_n 3, 1) := by decide +kernel
theorem dL_law_448 : decode cL_law 448 = .ok (.goto 100, 3) := by decide +kernel
theorem dL_law_451 : decode cL_law 451 = .ok (.iconst 1, 1) := by decide +kernel
theorem dL_law_452 : decode cL_law 452 = .ok (.aload_n 0, 1) := by decide +kernel
theorem dL_law_453 : decode cL_law 453 = .ok (.iload 6, 2) := by decide +kernel
theorem dL_law_455 : decode cL_law 455 = .ok (.iconst 2, 1) := by decide +kernel
theorem dL_law_456 : decode cL_law 456 = .ok (.iadd, 1) := by decide +kernel
theorem dL_law_457 : decode cL_law 457 = .ok (.iconst 4, 1) := by decide +kernel
theorem dL_law_458 : decode cL_law 458 = .ok (.invokestatic 134, 3) := by decide +kernel
theorem dL_law_461 : decode cL_law 461 = .ok (.iadd, 1) := by decide +kernel
theorem dL_law_462 : decode cL_law 462 = .ok (.istore 11, 2) := by decide +kernel
theorem dL_law_464 : decode cL_law 464 = .ok (.aload_n 1, 1) := by decide +kernel
theorem dL_law_465 : decode cL_law 465 = .ok (.bipush 9, 2) := by decide +kernel
theorem dL_law_467 : decode cL_law 467 = .ok (.iload 11, 2) := by decide +kernel
theorem dL_law_469 : decode cL_law 469 = .ok (.iconst 0, 1) := by decide +kernel
theorem dL_law_470 : decode cL_law 470 = .ok (.invokestatic 138, 3) := by decide +kernel
theorem dL_law_473 : decode cL_law 473 = .ok (.iload 4, 2) := by decide +kernel
theorem dL_law_475 : decode cL_law 475 = .ok (.iload 11, 2) := by decide +kernel
theorem dL_law_477 : decode cL_law 477 = .ok (.iadd, 1) := by decide +kernel
theorem dL_law_478 : decode cL_law 478 = .ok (.if_icmp .ne 61, 3) := by decide +kernel
theorem dL_law_481 : decode cL_law 481 = .ok (.aload_n 1, 1) := by decide +kernel
theorem dL_law_482 : decode cL_law 482 = .ok (.bipush 25, 2) := by decide +kernel
theorem dL_law_484 : decode cL_law 484 = .ok (.iload 7, 2) := by decide +kernel
theorem dL_law_486 : decode cL_law 486 = .ok (.iload 4, 2) := by decide +kernel
theorem dL_law_488 : decode cL_law 488 = .ok (.invokestatic 138, 3) := by decide +kernel
theorem dL_law_491 : decode cL_law 491 = .ok (.iload 9, 2) := by decide +kernel
theorem dL_law_493 : decode cL_law 493 = .ok (.if_icmp .ne 46, 3) := by decide +kernel
theorem dL_law_496 : decode cL_law 496 = .ok (.aload_n 1, 1) := by decide +kernel
theorem dL_law_497 : decode cL_law 497 = .ok (.bipush 25, 2) := by decide +kernel
theorem dL_law_499 : decode cL_law 499 = .ok (.iload 7, 2) := by decide +kernel
theorem dL_law_501 : decode cL_law 501 = .ok (.iload 4, 2) := by decide +kernel
theorem dL_law_503 : decode cL_law 503 = .ok (.iload 11, 2) := by decide +kernel
theorem dL_law_505 : decode cL_law 505 = .ok (.iadd, 1) := by decide +kernel
theorem dL_law_506 : decode cL_law 506 = .ok (.invokestatic 138, 3) := by decide +kernel
theorem dL_law_509 : decode cL_law 509 = .ok (.iload 9, 2) := by decide +kernel
theorem dL_law_511 : decode cL_law 511 = .ok (.if_icmp .ne 28, 3) := by decide +kernel
theorem dL_law_514 : decode cL_law 514 = .ok (.aload_n 1, 1) := by decide +kernel
theorem dL_law_515 : decode cL_law 515 = .ok (.bipush 25, 2) := by decide +kernel
theorem dL_law_517 : decode cL_law 517 = .ok (.iload 7, 2) := by decide +kernel
theorem dL_law_519 : decode cL_law 519 = .ok (.iload 4, 2) := by decide +kernel
theorem dL_law_521 : decode cL_law 521 = .ok (.iload 11, 2) := by decide +kernel
theorem dL_law_523 : decode cL_law 523 = .ok (.iadd, 1) := by decide +kernel
theorem dL_law_524 : decode cL_law 524 = .ok (.iconst 1, 1) := by decide +kernel
theorem dL_law_525 : decode cL_law 525 = .ok (.iadd, 1) := by decide +kernel
theorem dL_law_526 : decode cL_law 526 = .ok (.invokestatic 138, 3) := by decide +kernel
theorem dL_law_529 : decode cL_law 529 = .ok (.sipush (-20002), 3) := by decide +kernel
theorem dL_law_532 : decode cL_law 532 = .ok (.if_icmp .ne 7, 3) := by decide +kernel
theorem dL_law_535 : decode cL_law 535 = .ok (.iconst 1, 1) := by decide +kernel
theorem dL_law_536 : decode cL_law 536 = .ok (.goto 4, 3) := by decide +kernel
theorem dL_law_539 : decode cL_law 539 = .ok (.iconst 0, 1) := by decide +kernel
theorem dL_law_540 : decode cL_law 540 = .ok (.istore_n 2, 1) := by decide +kernel
theorem dL_law_541 : decode cL_law 541 = .ok (.iload 4, 2) := by decide +kernel
theorem dL_law_543 : decode cL_law 543 = .ok (.iload 11, 2) := by decide +kernel
theorem dL_law_545 : decode cL_law 545 = .ok (.iadd, 1) := by decide +kernel
theorem dL_law_546 : decode cL_law 546 = .ok (.istore 4, 2) := by decide +kernel
theorem dL_law_548 : decode cL_law 548 = .ok (.iload_n 2, 1) := by decide +kernel
theorem dL_law_549 : decode cL_law 549 = .ok (.ifCond .eq 18, 3) := by decide +kernel
theorem dL_law_552 : decode cL_law 552 = .ok (.aload_n 1, 1) := by decide +kernel
theorem dL_law_553 : decode cL_law 553 = .ok (.aload_n 0, 1) := by decide +kernel
theorem dL_law_554 : decode cL_law 554 = .ok (.iload 4, 2) := by decide +kernel
theorem dL_law_556 : decode cL_law 556 = .ok (.iload_n 3, 1) := by decide +kernel
theorem dL_law_557 : decode cL_law 557 = .ok (.invokestatic 186, 3) := by decide +kernel
theorem dL_law_560 : decode cL_law 560 = .ok (.ifCond .eq 7, 3) := by decide +kernel
theorem dL_law_563 : decode cL_law 563 = .ok (.iconst 1, 1) := by decide +kernel
theorem dL_law_564 : decode cL_law 564 = .ok (.goto 4, 3) := by decide +kernel
theorem dL_law_567 : decode cL_law 567 = .ok (.iconst 0, 1) := by decide +kernel
theorem dL_law_568 : decode cL_law 568 = .ok (.istore_n 2, 1) := by decide +kernel
theorem dL_law_569 : decode cL_law 569 = .ok (.iinc 5 1, 3) := by decide +kernel
theorem dL_law_572 : decode cL_law 572 = .ok (.goto (-488), 3) := by decide +kernel
theorem dL_law_575 : decode cL_law 575 = .ok (.iload_n 2, 1) := by decide +kernel
theorem dL_law_576 : decode cL_law 576 = .ok (.ireturn, 1) := by decide +kernel
