/-! rows that decode: printed -/
theorem dX11_gives_157 : decode cX11_gives 157 = .ok (.iaload, 1) := by decide +kernel
theorem dX11_gives_158 : decode cX11_gives 158 = .ok (.iconst 1, 1) := by decide +kernel
theorem dX11_gives_159 : decode cX11_gives 159 = .ok (.iadd, 1) := by decide +kernel
theorem dX11_gives_160 : decode cX11_gives 160 = .ok (.iastore, 1) := by decide +kernel
theorem dX11_gives_161 : decode cX11_gives 161 = .ok (.aload_n 0, 1) := by decide +kernel
theorem dX11_gives_162 : decode cX11_gives 162 = .ok (.getfield 7, 3) := by decide +kernel
theorem dX11_gives_165 : decode cX11_gives 165 = .ok (.iload_n 3, 1) := by decide +kernel
theorem dX11_gives_166 : decode cX11_gives 166 = .ok (.iconst 1, 1) := by decide +kernel
theorem dX11_gives_167 : decode cX11_gives 167 = .ok (.iadd, 1) := by decide +kernel
theorem dX11_gives_168 : decode cX11_gives 168 = .ok (.aload_n 0, 1) := by decide +kernel
theorem dX11_gives_169 : decode cX11_gives 169 = .ok (.iload_n 1, 1) := by decide +kernel
theorem dX11_gives_170 : decode cX11_gives 170 = .ok (.iconst 2, 1) := by decide +kernel
theorem dX11_gives_171 : decode cX11_gives 171 = .ok (.invokevirtual 164, 3) := by decide +kernel
theorem dX11_gives_174 : decode cX11_gives 174 = .ok (.iastore, 1) := by decide +kernel
theorem dX11_gives_175 : decode cX11_gives 175 = .ok (.aload_n 0, 1) := by decide +kernel
theorem dX11_gives_176 : decode cX11_gives 176 = .ok (.iload_n 1, 1) := by decide +kernel
theorem dX11_gives_177 : decode cX11_gives 177 = .ok (.invokevirtual 237, 3) := by decide +kernel
theorem dX11_gives_180 : decode cX11_gives 180 = .ok (.return_, 1) := by decide +kernel
theorem dX11_isShut_0 : decode cX11_isShut 0 = .ok (.aload_n 0, 1) := by decide +kernel
theorem dX11_isShut_1 : decode cX11_isShut 1 = .ok (.iload_n 2, 1) := by decide +kernel
theorem dX11_isShut_2 : decode cX11_isShut 2 = .ok (.invokevirtual 156, 3) := by decide +kernel
theorem dX11_isShut_5 : decode cX11_isShut 5 = .ok (.iconst 3, 1) := by decide +kernel
theorem dX11_isShut_6 : decode cX11_isShut 6 = .ok (.if_icmp .ne 32, 3) := by decide +kernel
theorem dX11_isShut_9 : decode cX11_isShut 9 = .ok (.iload_n 2, 1) := by decide +kernel
theorem dX11_isShut_10 : decode cX11_isShut 10 = .ok (.aload_n 0, 1) := by decide +kernel
theorem dX11_isShut_11 : decode cX11_isShut 11 = .ok (.iload_n 1, 1) := by decide +kernel
theorem dX11_isShut_12 : decode cX11_isShut 12 = .ok (.iconst 3, 1) := by decide +kernel
theorem dX11_isShut_13 : decode cX11_isShut 13 = .ok (.invokevirtual 164, 3) := by decide +kernel
theorem dX11_isShut_16 : decode cX11_isShut 16 = .ok (.if_icmp .eq 18, 3) := by decide +kernel
theorem dX11_isShut_19 : decode cX11_isShut 19 = .ok (.aload_n 0, 1) := by decide +kernel
theorem dX11_isShut_20 : decode cX11_isShut 20 = .ok (.iload_n 1, 1) := by decide +kernel
theorem dX11_isShut_21 : decode cX11_isShut 21 = .ok (.bipush 7, 2) := by decide +kernel
theorem dX11_isShut_23 : decode cX11_isShut 23 = .ok (.invokevirtual 164, 3) := by decide +kernel
theorem dX11_isShut_26 : decode cX11_isShut 26 = .ok (.iload_n 2, 1) := by decide +kernel
theorem dX11_isShut_27 : decode cX11_isShut 27 = .ok (.ishr, 1) := by decide +kernel
theorem dX11_isShut_28 : decode cX11_isShut 28 = .ok (.iconst 1, 1) := by decide +kernel
theorem dX11_isShut_29 : decode cX11_isShut 29 = .ok (.iand, 1) := by decide +kernel
theorem dX11_isShut_30 : decode cX11_isShut 30 = .ok (.iconst 1, 1) := by decide +kernel
theorem dX11_isShut_31 : decode cX11_isShut 31 = .ok (.if_icmp .ne 7, 3) := by decide +kernel
theorem dX11_isShut_34 : decode cX11_isShut 34 = .ok (.iconst 1, 1) := by decide +kernel
theorem dX11_isShut_35 : decode cX11_isShut 35 = .ok (.goto 4, 3) := by decide +kernel
theorem dX11_isShut_38 : decode cX11_isShut 38 = .ok (.iconst 0, 1) := by decide +kernel
theorem dX11_isShut_39 : decode cX11_isShut 39 = .ok (.ireturn, 1) := by decide +kernel
theorem dX11_opens_0 : decode cX11_opens 0 = .ok (.aload_n 0, 1) := by decide +kernel
theorem dX11_opens_1 : decode cX11_opens 1 = .ok (.iload_n 1, 1) := by decide +kernel
theorem dX11_opens_2 : decode cX11_opens 2 = .ok (.iconst 3, 1) := by decide +kernel
theorem dX11_opens_3 : decode cX11_opens 3 = .ok (.invokevirtual 164, 3) := by decide +kernel
theorem dX11_opens_6 : decode cX11_opens 6 = .ok (.istore_n 2, 1) := by decide +kernel
theorem dX11_opens_7 : decode cX11_opens 7 = .ok (.iconst 0, 1) := by decide +kernel
theorem dX11_opens_8 : decode cX11_opens 8 = .ok (.istore_n 3, 1) := by decide +kernel
theorem dX11_opens_9 : decode cX11_opens 9 = .ok (.iconst 0, 1) := by decide +kernel
theorem dX11_opens_10 : decode cX11_opens 10 = .ok (.istore 4, 2) := by decide +kernel
theorem dX11_opens_12 : decode cX11_opens 12 = .ok (.iload 4, 2) := by decide +kernel
theorem dX11_opens_14 : decode cX11_opens 14 = .ok (.aload_n 0, 1) := by decide +kernel
theorem dX11_opens_15 : decode cX11_opens 15 = .ok (.iload_n 2, 1) := by decide +kernel
theorem dX11_opens_16 : decode cX11_opens 16 = .ok (.invokevirtual 197, 3) := by decide +kernel
theorem dX11_opens_19 : decode cX11_opens 19 = .ok (.if_icmp .ge 35, 3) := by decide +kernel
theorem dX11_opens_22 : decode cX11_opens 22 = .ok (.iload_n 3, 1) := by decide +kernel
theorem dX11_opens_23 : decode cX11_opens 23 = .ok (.aload_n 0, 1) := by decide +kernel
theorem dX11_opens_24 : decode cX11_opens 24 = .ok (.iload_n 1, 1) := by decide +kernel
theorem dX11_opens_25 : decode cX11_opens 25 = .ok (.aload_n 0, 1) := by decide +kernel
theorem dX11_opens_26 : decode cX11_opens 26 = .ok (.iload_n 2, 1) := by decide +kernel
theorem dX11_opens_27 : decode cX11_opens 27 = .ok (.iload 4, 2) := by decide +kernel
theorem dX11_opens_29 : decode cX11_opens 29 = .ok (.invokevirtual 203, 3) := by decide +kernel
theorem dX11_opens_32 : decode cX11_opens 32 = .ok (.invokevirtual 243, 3) := by decide +kernel
theorem dX11_opens_35 : decode cX11_opens 35 = .ok (.ifCond .ne 7, 3) := by decide +kernel
theorem dX11_opens_38 : decode cX11_opens 38 = .ok (.iconst 1, 1) := by decide +kernel
theorem dX11_opens_39 : decode cX11_opens 39 = .ok (.goto 4, 3) := by decide +kernel
theorem dX11_opens_42 : decode cX11_opens 42 = .ok (.iconst 0, 1) := by decide +kernel
theorem dX11_opens_43 : decode cX11_opens 43 = .ok (.invokestatic 104, 3) := by decide +kernel
theorem dX11_opens_46 : decode cX11_opens 46 = .ok (.iadd, 1) := by decide +kernel
theorem dX11_opens_47 : decode cX11_opens 47 = .ok (.istore_n 3, 1) := by decide +kernel
theorem dX11_opens_48 : decode cX11_opens 48 = .ok (.iinc 4 1, 3) := by decide +kernel
theorem dX11_opens_51 : decode cX11_opens 51 = .ok (.goto (-39), 3) := by decide +kernel
theorem dX11_opens_54 : decode cX11_opens 54 = .ok (.aload_n 0, 1) := by decide +kernel
theorem dX11_opens_55 : decode cX11_opens 55 = .ok (.getfield 7, 3) := by decide +kernel
theorem dX11_opens_58 : decode cX11_opens 58 = .ok (.iconst 4, 1) := by decide +kernel
theorem dX11_opens_59 : decode cX11_opens 59 = .ok (.iaload, 1) := by decide +kernel
theorem dX11_opens_60 : decode cX11_opens 60 = .ok (.iconst 1, 1) := by decide +kernel
theorem dX11_opens_61 : decode cX11_opens 61 = .ok (.isub, 1) := by decide +kernel
theorem dX11_opens_62 : decode cX11_opens 62 = .ok (.iload_n 3, 1) := by decide +kernel
theorem dX11_opens_63 : decode cX11_opens 63 = .ok (.iadd, 1) := by decide +kernel
theorem dX11_opens_64 : decode cX11_opens 64 = .ok (.bipush 60, 2) := by decide +kernel
theorem dX11_opens_66 : decode cX11_opens 66 = .ok (.if_icmp .le 20, 3) := by decide +kernel
theorem dX11_opens_69 : decode cX11_opens 69 = .ok (.aload_n 0, 1) := by decide +kernel
theorem dX11_opens_70 : decode cX11_opens 70 = .ok (.iload_n 1, 1) := by decide +kernel
theorem dX11_opens_71 : decode cX11_opens 71 = .ok (.bipush 6, 2) := by decide +kernel
theorem dX11_opens_73 : decode cX11_opens 73 = .ok (.aload_n 0, 1) := by decide +kernel
theorem dX11_opens_74 : decode cX11_opens 74 = .ok (.getfield 7, 3) := by decide +kernel
theorem dX11_opens_77 : decode cX11_opens 77 = .ok (.iconst 2, 1) := by decide +kernel
theorem dX11_opens_78 : decode cX11_opens 78 = .ok (.iaload, 1) := by decide +kernel
theorem dX11_opens_79 : decode cX11_opens 79 = .ok (.iconst 1, 1) := by decide +kernel
theorem dX11_opens_80 : decode cX11_opens 80 = .ok (.iadd, 1) := by decide +kernel
theorem dX11_opens_81 : decode cX11_opens 81 = .ok (.invokevirtual 206, 3) := by decide +kernel
theorem dX11_opens_84 : decode cX11_opens 84 = .ok (.iconst 1, 1) := by decide +kernel
theorem dX11_opens_85 : decode cX11_opens 85 = .ok (.ireturn, 1) := by decide +kernel
theorem dX11_opens_86 : decode cX11_opens 86 = .ok (.aload_n 0, 1) := by decide +kernel
theorem dX11_opens_87 : decode cX11_opens 87 = .ok (.iconst 5, 1) := by decide +kernel
theorem dX11_opens_88 : decode cX11_opens 88 = .ok (.iload_n 1, 1) := by decide +kernel
theorem dX11_opens_89 : decode cX11_opens 89 = .ok (.aload_n 0, 1) := by decide +kernel
theorem dX11_opens_90 : decode cX11_opens 90 = .ok (.iload_n 1, 1) := by decide +kernel
theorem dX11_opens_91 : decode cX11_opens 91 = .ok (.iconst 0, 1) := by decide +kernel
theorem dX11_opens_92 : decode cX11_opens 92 = .ok (.invokevirtual 164, 3) := by decide +kernel
theorem dX11_opens_95 : decode cX11_opens 95 = .ok (.invokevirtual 234, 3) := by decide +kernel
theorem dX11_opens_98 : decode cX11_opens 98 = .ok (.iconst 0, 1) := by decide +kernel
theorem dX11_opens_99 : decode cX11_opens 99 = .ok (.istore 4, 2) := by decide +kernel
theorem dX11_opens_101 : decode cX11_opens 101 = .ok (.iload 4, 2) := by decide +kernel
theorem dX11_opens_103 : decode cX11_opens 103 = .ok (.bipush 8, 2) := by decide +kernel
theorem dX11_opens_105 : decode cX11_opens 105 = .ok (.if_icmp .ge 23, 3) := by decide +kernel
theorem dX11_opens_108 : decode cX11_opens 108 = .ok (.aload_n 0, 1) := by decide +kernel
theorem dX11_opens_109 : decode cX11_opens 109 = .ok (.getfield 32, 3) := by decide +kernel
theorem dX11_opens_112 : decode cX11_opens 112 = .ok (.iload 4, 2) := by decide +kernel
theorem dX11_opens_114 : decode cX11_opens 114 = .ok (.aload_n 0, 1) := by decide +kernel
theorem dX11_opens_115 : decode cX11_opens 115 = .ok (.iload_n 1, 1) := by decide +kernel
theorem dX11_opens_116 : decode cX11_opens 116 = .ok (.iload 4, 2) := by decide +kernel
theorem dX11_opens_118 : decode cX11_opens 118 = .ok (.invokevirtual 164, 3) := by decide +kernel
theorem dX11_opens_121 : decode cX11_opens 121 = .ok (.iastore, 1) := by decide +kernel
theorem dX11_opens_122 : decode cX11_opens 122 = .ok (.iinc 4 1, 3) := by decide +kernel
theorem dX11_opens_125 : decode cX11_opens 125 = .ok (.goto (-24), 3) := by decide +kernel
theorem dX11_opens_128 : decode cX11_opens 128 = .ok (.iconst 0, 1) := by decide +kernel
theorem dX11_opens_129 : decode cX11_opens 129 = .ok (.istore 4, 2) := by decide +kernel
theorem dX11_opens_131 : decode cX11_opens 131 = .ok (.iconst 0, 1) := by decide +kernel
theorem dX11_opens_132 : decode cX11_opens 132 = .ok (.istore 5, 2) := by decide +kernel
theorem dX11_opens_134 : decode cX11_opens 134 = .ok (.iload 5, 2) := by decide +kernel
theorem dX11_opens_136 : decode cX11_opens 136 = .ok (.aload_n 0, 1) := by decide +kernel
theorem dX11_opens_137 : decode cX11_opens 137 = .ok (.iload_n 2, 1) := by decide +kernel
theorem dX11_opens_138 : decode cX11_opens 138 = .ok (.invokevirtual 197, 3) := by decide +kernel
theorem dX11_opens_141 : decode cX11_opens 141 = .ok (.if_icmp .ge 28, 3) := by decide +kernel
theorem dX11_opens_144 : decode cX11_opens 144 = .ok (.aload_n 0, 1) := by decide +kernel
theorem dX11_opens_145 : decode cX11_opens 145 = .ok (.getfield 35, 3) := by decide +kernel
theorem dX11_opens_148 : decode cX11_opens 148 = .ok (.iload 5, 2) := by decide +kernel
theorem dX11_opens_150 : decode cX11_opens 150 = .ok (.aload_n 0, 1) := by decide +kernel
theorem dX11_opens_151 : decode cX11_opens 151 = .ok (.iload_n 1, 1) := by decide +kernel
theorem dX11_opens_152 : decode cX11_opens 152 = .ok (.aload_n 0, 1) := by decide +kernel
theorem dX11_opens_153 : decode cX11_opens 153 = .ok (.iload_n 2, 1) := by decide +kernel
theorem dX11_opens_154 : decode cX11_opens 154 = .ok (.iload 5, 2) := by decide +kernel
theorem dX11_opens_156 : decode cX11_opens 156 = .ok (.invokevirtual 203, 3) := by decide +kernel
theorem dX11_opens_159 : decode cX11_opens 159 = .ok (.invokevirtual 243, 3) := by decide +kernel
theorem dX11_opens_162 : decode cX11_opens 162 = .ok (.bastore, 1) := by decide +kernel
theorem dX11_opens_163 : decode cX11_opens 163 = .ok (.iinc 5 1, 3) := by decide +kernel
theorem dX11_opens_166 : decode cX11_opens 166 = .ok (.goto (-32), 3) := by decide +kernel
theorem dX11_opens_169 : decode cX11_opens 169 = .ok (.aload_n 0, 1) := by decide +kernel
theorem dX11_opens_170 : decode cX11_opens 170 = .ok (.iload_n 1, 1) := by decide +kernel
theorem dX11_opens_171 : decode cX11_opens 171 = .ok (.invokevirtual 237, 3) := by decide +kernel
theorem dX11_opens_174 : decode cX11_opens 174 = .ok (.iconst 0, 1) := by decide +kernel
theorem dX11_opens_175 : decode cX11_opens 175 = .ok (.istore 5, 2) := by decide +kernel
theorem dX11_opens_177 : decode cX11_opens 177 = .ok (.iload 5, 2) := by decide +kernel
theorem dX11_opens_179 : decode cX11_opens 179 = .ok (.aload_n 0, 1) := by decide +kernel
theorem dX11_opens_180 : decode cX11_opens 180 = .ok (.iload_n 2, 1) := by decide +kernel
theorem dX11_opens_181 : decode cX11_opens 181 = .ok (.invokevirtual 197, 3) := by decide +kernel
theorem dX11_opens_184 : decode cX11_opens 184 = .ok (.if_icmp .ge 78, 3) := by decide +kernel
theorem dX11_opens_187 : decode cX11_opens 187 = .ok (.aload_n 0, 1) := by decide +kernel
theorem dX11_opens_188 : decode cX11_opens 188 = .ok (.getfield 35, 3) := by decide +kernel
theorem dX11_opens_191 : decode cX11_opens 191 = .ok (.iload 5, 2) := by decide +kernel
theorem dX11_opens_193 : decode cX11_opens 193 = .ok (.baload, 1) := by decide +kernel
theorem dX11_opens_194 : decode cX11_opens 194 = .ok (.ifCond .ne 62, 3) := by decide +kernel
theorem dX11_opens_197 : decode cX11_opens 197 = .ok (.aload_n 0, 1) := by decide +kernel
theorem dX11_opens_198 : decode cX11_opens 198 = .ok (.aload_n 0, 1) := by decide +kernel
theorem dX11_opens_199 : decode cX11_opens 199 = .ok (.getfield 32, 3) := by decide +kernel
theorem dX11_opens_202 : decode cX11_opens 202 = .ok (.iconst 0, 1) := by decide +kernel
theorem dX11_opens_203 : decode cX11_opens 203 = .ok (.iaload, 1) := by decide +kernel
theorem dX11_opens_204 : decode cX11_opens 204 = .ok (.aload_n 0, 1) := by decide +kernel
theorem dX11_opens_205 : decode cX11_opens 205 = .ok (.getfield 32, 3) := by decide +kernel
theorem dX11_opens_208 : decode cX11_opens 208 = .ok (.iconst 1, 1) := by decide +kernel
theorem dX11_opens_209 : decode cX11_opens 209 = .ok (.iaload, 1) := by decide +kernel
theorem dX11_opens_210 : decode cX11_opens 210 = .ok (.aload_n 0, 1) := by decide +kernel
theorem dX11_opens_211 : decode cX11_opens 211 = .ok (.getfield 32, 3) := by decide +kernel
theorem dX11_opens_214 : decode cX11_opens 214 = .ok (.iconst 2, 1) := by decide +kernel
theorem dX11_opens_215 : decode cX11_opens 215 = .ok (.iaload, 1) := by decide +kernel
theorem dX11_opens_216 : decode cX11_opens 216 = .ok (.aload_n 0, 1) := by decide +kernel
theorem dX11_opens_217 : decode cX11_opens 217 = .ok (.iload_n 2, 1) := by decide +kernel
theorem dX11_opens_218 : decode cX11_opens 218 = .ok (.iload 5, 2) := by decide +kernel
theorem dX11_opens_220 : decode cX11_opens 220 = .ok (.invokevirtual 203, 3) := by decide +kernel
theorem dX11_opens_223 : decode cX11_opens 223 = .ok (.aload_n 0, 1) := by decide +kernel
theorem dX11_opens_224 : decode cX11_opens 224 = .ok (.getfield 32, 3) := by decide +kernel
theorem dX11_opens_227 : decode cX11_opens 227 = .ok (.iconst 5, 1) := by decide +kernel
theorem dX11_opens_228 : decode cX11_opens 228 = .ok (.iaload, 1) := by decide +kernel
theorem dX11_opens_229 : decode cX11_opens 229 = .ok (.iconst 1, 1) := by decide +kernel
theorem dX11_opens_230 : decode cX11_opens 230 = .ok (.iadd, 1) := by decide +kernel
theorem dX11_opens_231 : decode cX11_opens 231 = .ok (.aload_n 0, 1) := by decide +kernel
theorem dX11_opens_232 : decode cX11_opens 232 = .ok (.getfield 32, 3) := by decide +kernel
theorem dX11_opens_235 : decode cX11_opens 235 = .ok (.bipush 7, 2) := by decide +kernel
theorem dX11_opens_237 : decode cX11_opens 237 = .ok (.iaload, 1) := by decide +kernel
theorem dX11_opens_238 : decode cX11_opens 238 = .ok (.iconst 1, 1) := by decide +kernel
theorem dX11_opens_239 : decode cX11_opens 239 = .ok (.iload_n 2, 1) := by decide +kernel
theorem dX11_opens_240 : decode cX11_opens 240 = .ok (.ishl, 1) := by decide +kernel
theorem dX11_opens_241 : decode cX11_opens 241 = .ok (.ior, 1) := by decide +kernel
theorem dX11_opens_242 : decode cX11_opens 242 = .ok (.invokevirtual 214, 3) := by decide +kernel
theorem dX11_opens_245 : decode cX11_opens 245 = .ok (.aload_n 0, 1) := by decide +kernel
theorem dX11_opens_246 : decode cX11_opens 246 = .ok (.getfield 7, 3) := by decide +kernel
theorem dX11_opens_249 : decode cX11_opens 249 = .ok (.bipush 6, 2) := by decide +kernel
theorem dX11_opens_251 : decode cX11_opens 251 = .ok (.dup2, 1) := by decide +kernel
theorem dX11_opens_252 : decode cX11_opens 252 = .ok (.iaload, 1) := by decide +kernel
theorem dX11_opens_253 : decode cX11_opens 253 = .ok (.iconst 1, 1) := by decide +kernel
theorem dX11_opens_254 : decode cX11_opens 254 = .ok (.iadd, 1) := by decide +kernel
theorem dX11_opens_255 : decode cX11_opens 255 = .ok (.iastore, 1) := by decide +kernel
theorem dX11_opens_256 : decode cX11_opens 256 = .ok (.iinc 5 1, 3) := by decide +kernel
theorem dX11_opens_259 : decode cX11_opens 259 = .ok (.goto (-82), 3) := by decide +kernel
theorem dX11_opens_262 : decode cX11_opens 262 = .ok (.iload 4, 2) := by decide +kernel
theorem dX11_opens_264 : decode cX11_opens 264 = .ok (.ireturn, 1) := by decide +kernel
theorem dX11_arrives_0 : decode cX11_arrives 0 = .ok (.aload_n 0, 1) := by decide +kernel
theorem dX11_arrives_1 : decode cX11_arrives 1 = .ok (.iload_n 1, 1) := by decide +kernel
theorem dX11_arrives_2 : decode cX11_arrives 2 = .ok (.iconst 3, 1) := by decide +kernel
theorem dX11_arrives_3 : decode cX11_arrives 3 = .ok (.invokevirtual 164, 3) := by decide +kernel
theorem dX11_arrives_6 : decode cX11_arrives 6 = .ok (.istore_n 2, 1) := by decide +kernel
theorem dX11_arrives_7 : decode cX11_arrives 7 = .ok (.aload_n 0, 1) := by decide +kernel
theorem dX11_arrives_8 : decode cX11_arrives 8 = .ok (.iload_n 2, 1) := by decide +kernel
theorem dX11_arrives_9 : decode cX11_arrives 9 = .ok (.invokevirtual 156, 3) := by decide +kernel
theorem dX11_arrives_12 : decode cX11_arrives 12 = .ok (.tableswitch 121 1 3 #[28, 35, 97], 28) := by decide +kernel
theorem dX11_arrives_40 : decode cX11_arrives 40 = .ok (.aload_n 0, 1) := by decide +kernel
theorem dX11_arrives_41 : decode cX11_arrives 41 = .ok (.iload_n 1, 1) := by decide +kernel
theorem dX11_arrives_42 : decode cX11_arrives 42 = .ok (.invokevirtual 246, 3) := by decide +kernel
theorem dX11_arrives_45 : decode cX11_arrives 45 = .ok (.iconst 0, 1) := by decide +kernel
theorem dX11_arrives_46 : decode cX11_arrives 46 = .ok (.ireturn, 1) := by decide +kernel
theorem dX11_arrives_47 : decode cX11_arrives 47 = .ok (.aload_n 0, 1) := by decide +kernel
theorem dX11_arrives_48 : decode cX11_arrives 48 = .ok (.iconst 4, 1) := by decide +kernel
theorem dX11_arrives_49 : decode cX11_arrives 49 = .ok (.iload_n 1, 1) := by decide +kernel
theorem dX11_arrives_50 : decode cX11_arrives 50 = .ok (.aload_n 0, 1) := by decide +kernel
theorem dX11_arrives_51 : decode cX11_arrives 51 = .ok (.iload_n 1, 1) := by decide +kernel
theorem dX11_arrives_52 : decode cX11_arrives 52 = .ok (.iconst 0, 1) := by decide +kernel
theorem dX11_arrives_53 : decode cX11_arrives 53 = .ok (.invokevirtual 164, 3) := by decide +kernel
theorem dX11_arrives_56 : decode cX11_arrives 56 = .ok (.invokevirtual 234, 3) := by decide +kernel
theorem dX11_arrives_59 : decode cX11_arrives 59 = .ok (.aload_n 0, 1) := by decide +kernel
theorem dX11_arrives_60 : decode cX11_arrives 60 = .ok (.iload_n 1, 1) := by decide +kernel
theorem dX11_arrives_61 : decode cX11_arrives 61 = .ok (.iconst 3, 1) := by decide +kernel
theorem dX11_arrives_62 : decode cX11_arrives 62 = .ok (.aload_n 0, 1) := by decide +kernel
theorem dX11_arrives_63 : decode cX11_arrives 63 = .ok (.iload_n 2, 1) := by decide +kernel
theorem dX11_arrives_64 : decode cX11_arrives 64 = .ok (.iconst 0, 1) := by decide +kernel
theorem dX11_arrives_65 : decode cX11_arrives 65 = .ok (.invokevirtual 203, 3) := by decide +kernel
theorem dX11_arrives_68 : decode cX11_arrives 68 = .ok (.invokevirtual 206, 3) := by decide +kernel
theorem dX11_arrives_71 : decode cX11_arrives 71 = .ok (.aload_n 0, 1) := by decide +kernel
theorem dX11_arrives_72 : decode cX11_arrives 72 = .ok (.iload_n 1, 1) := by decide +kernel
theorem dX11_arrives_73 : decode cX11_arrives 73 = .ok (.iconst 5, 1) := by decide +kernel
theorem dX11_arrives_74 : decode cX11_arrives 74 = .ok (.aload_n 0, 1) := by decide +kernel
theorem dX11_arrives_75 : decode cX11_arrives 75 = .ok (.iload_n 1, 1) := by decide +kernel
theorem dX11_arrives_76 : decode cX11_arrives 76 = .ok (.iconst 5, 1) := by decide +kernel
theorem dX11_arrives_77 : decode cX11_arrives 77 = .ok (.invokevirtual 164, 3) := by decide +kernel
theorem dX11_arrives_80 : decode cX11_arrives 80 = .ok (.iconst 1, 1) := by decide +kernel
theorem dX11_arrives_81 : decode cX11_arrives 81 = .ok (.iadd, 1) := by decide +kernel
theorem dX11_arrives_82 : decode cX11_arrives 82 = .ok (.invokevirtual 206, 3) := by decide +kernel
theorem dX11_arrives_85 : decode cX11_arrives 85 = .ok (.aload_n 0, 1) := by decide +kernel
theorem dX11_arrives_86 : decode cX11_arrives 86 = .ok (.iload_n 1, 1) := by decide +kernel
theorem dX11_arrives_87 : decode cX11_arrives 87 = .ok (.iconst 4, 1) := by decide +kernel
theorem dX11_arrives_88 : decode cX11_arrives 88 = .ok (.iconst 0, 1) := by decide +kernel
theorem dX11_arrives_89 : decode cX11_arrives 89 = .ok (.invokevirtual 206, 3) := by decide +kernel
theorem dX11_arrives_92 : decode cX11_arrives 92 = .ok (.aload_n 0, 1) := by decide +kernel
theorem dX11_arrives_93 : decode cX11_arrives 93 = .ok (.iload_n 1, 1) := by decide +kernel
theorem dX11_arrives_94 : decode cX11_arrives 94 = .ok (.bipush 6, 2) := by decide +kernel
theorem dX11_arrives_96 : decode cX11_arrives 96 = .ok (.aload_n 0, 1) := by decide +kernel
theorem dX11_arrives_97 : decode cX11_arrives 97 = .ok (.getfield 7, 3) := by decide +kernel
theorem dX11_arrives_100 : decode cX11_arrives 100 = .ok (.iconst 2, 1) := by decide +kernel
theorem dX11_arrives_101 : decode cX11_arrives 101 = .ok (.iaload, 1) := by decide +kernel
theorem dX11_arrives_102 : decode cX11_arrives 102 = .ok (.iconst 1, 1) := by decide +kernel
theorem dX11_arrives_103 : decode cX11_arrives 103 = .ok (.iadd, 1) := by decide +kernel
theorem dX11_arrives_104 : decode cX11_arrives 104 = .ok (.invokevirtual 206, 3) := by decide +kernel
theorem dX11_arrives_107 : decode cX11_arrives 107 = .ok (.iconst 1, 1) := by decide +kernel
theorem dX11_arrives_108 : decode cX11_arrives 108 = .ok (.ireturn, 1) := by decide +kernel
theorem dX11_arrives_109 : decode cX11_arrives 109 = .ok (.aload_n 0, 1) := by decide +kernel
theorem dX11_arrives_110 : decode cX11_arrives 110 = .ok (.iload_n 1, 1) := by decide +kernel
theorem dX11_arrives_111 : decode cX11_arrives 111 = .ok (.iconst 2, 1) := by decide +kernel
theorem dX11_arrives_112 : decode cX11_arrives 112 = .ok (.invokevirtual 164, 3) := by decide +kernel
theorem dX11_arrives_115 : decode cX11_arrives 115 = .ok (.bipush (-4), 2) := by decide +kernel
theorem dX11_arrives_117 : decode cX11_arrives 117 = .ok (.if_icmp .eq 9, 3) := by decide +kernel
theorem dX11_arrives_120 : decode cX11_arrives 120 = .ok (.aload_n 0, 1) := by decide +kernel
theorem dX11_arrives_121 : decode cX11_arrives 121 = .ok (.iload_n 1, 1) := by decide +kernel
theorem dX11_arrives_122 : decode cX11_arrives 122 = .ok (.invokevirtual 249, 3) := by decide +kernel
theorem dX11_arrives_125 : decode cX11_arrives 125 = .ok (.ireturn, 1) := by decide +kernel
theorem dX11_arrives_126 : decode cX11_arrives 126 = .ok (.aload_n 0, 1) := by decide +kernel
theorem dX11_arrives_127 : decode cX11_arrives 127 = .ok (.iload_n 1, 1) := by decide +kernel
theorem dX11_arrives_128 : decode cX11_arrives 128 = .ok (.invokevirtual 252, 3) := by decide +kernel
theorem dX11_arrives_131 : decode cX11_arrives 131 = .ok (.iconst 0, 1) := by decide +kernel
theorem dX11_arrives_132 : decode cX11_arrives 132 = .ok (.ireturn, 1) := by decide +kernel
theorem dX11_arrives_133 : decode cX11_arrives 133 = .ok (.aload_n 0, 1) := by decide +kernel
theorem dX11_arrives_134 : decode cX11_arrives 134 = .ok (.iload_n 1, 1) := by decide +kernel
theorem dX11_arrives_135 : decode cX11_arrives 135 = .ok (.invokevirtual 252, 3) := by decide +kernel
theorem dX11_arrives_138 : decode cX11_arrives 138 = .ok (.iconst 0, 1) := by decide +kernel
theorem dX11_arrives_139 : decode cX11_arrives 139 = .ok (.ireturn, 1) := by decide +kernel
theorem dX11_travels_0 : decode cX11_travels 0 = .ok (.aload_n 0, 1) := by decide +kernel
theorem dX11_travels_1 : decode cX11_travels 1 = .ok (.iload_n 1, 1) := by decide +kernel
theorem dX11_travels_2 : decode cX11_travels 2 = .ok (.iconst 0, 1) := by decide +kernel
theorem dX11_travels_3 : decode cX11_travels 3 = .ok (.invokevirtual 164, 3) := by decide +kernel
theorem dX11_travels_6 : decode cX11_travels 6 = .ok (.istore_n 2, 1) := by decide +kernel
theorem dX11_travels_7 : decode cX11_travels 7 = .ok (.aload_n 0, 1) := by decide +kernel
theorem dX11_travels_8 : decode cX11_travels 8 = .ok (.iload_n 1, 1) := by decide +kernel
theorem dX11_travels_9 : decode cX11_travels 9 = .ok (.iconst 2, 1) := by decide +kernel
theorem dX11_travels_10 : decode cX11_travels 10 = .ok (.invokevirtual 164, 3) := by decide +kernel
theorem dX11_travels_13 : decode cX11_travels 13 = .ok (.istore_n 3, 1) := by decide +kernel
theorem dX11_travels_14 : decode cX11_travels 14 = .ok (.aload_n 0, 1) := by decide +kernel
theorem dX11_travels_15 : decode cX11_travels 15 = .ok (.iload_n 1, 1) := by decide +kernel
theorem dX11_travels_16 : decode cX11_travels 16 = .ok (.iconst 3, 1) := by decide +kernel
theorem dX11_travels_17 : decode cX11_travels 17 = .ok (.invokevirtual 164, 3) := by decide +kernel
theorem dX11_travels_20 : decode cX11_travels 20 = .ok (.istore 4, 2) := by decide +kernel
theorem dX11_travels_22 : decode cX11_travels 22 = .ok (.iconst 0, 1) := by decide +kernel
theorem dX11_travels_23 : decode cX11_travels 23 = .ok (.istore 5, 2) := by decide +kernel
theorem dX11_travels_25 : decode cX11_travels 25 = .ok (.aload_n 0, 1) := by decide +kernel
theorem dX11_travels_26 : decode cX11_travels 26 = .ok (.iload_n 2, 1) := by decide +kernel
theorem dX11_travels_27 : decode cX11_travels 27 = .ok (.iload 4, 2) := by decide +kernel
theorem dX11_travels_29 : decode cX11_travels 29 = .ok (.bipush 8, 2) := by decide +kernel
theorem dX11_travels_31 : decode cX11_travels 31 = .ok (.idiv, 1) := by decide +kernel
theorem dX11_travels_32 : decode cX11_travels 32 = .ok (.iload 5, 2) := by decide +kernel
theorem dX11_travels_34 : decode cX11_travels 34 = .ok (.invokevirtual 255, 3) := by decide +kernel
theorem dX11_travels_37 : decode cX11_travels 37 = .ok (.bipush (-4), 2) := by decide +kernel
theorem dX11_travels_39 : decode cX11_travels 39 = .ok (.if_icmp .eq 111, 3) := by decide +kernel
theorem dX11_travels_42 : decode cX11_travels 42 = .ok (.aload_n 0, 1) := by decide +kernel
theorem dX11_travels_43 : decode cX11_travels 43 = .ok (.iload_n 2, 1) := by decide +kernel
theorem dX11_travels_44 : decode cX11_travels 44 = .ok (.iload 4, 2) := by decide +kernel
theorem dX11_travels_46 : decode cX11_travels 46 = .ok (.bipush 8, 2) := by decide +kernel
theorem dX11_travels_48 : decode cX11_travels 48 = .ok (.idiv, 1) := by decide +kernel
theorem dX11_travels_49 : decode cX11_travels 49 = .ok (.iload 5, 2) := by decide +kernel
theorem dX11_travels_51 : decode cX11_travels 51 = .ok (.invokevirtual 255, 3) := by decide +kernel
theorem dX11_travels_54 : decode cX11_travels 54 = .ok (.istore 6, 2) := by decide +kernel
theorem dX11_travels_56 : decode cX11_travels 56 = .ok (.aload_n 0, 1) := by decide +kernel
theorem dX11_travels_57 : decode cX11_travels 57 = .ok (.getfield 7, 3) := by decide +kernel
theorem dX11_travels_60 : decode cX11_travels 60 = .ok (.bipush 16, 2) := by decide +kernel
theorem dX11_travels_62 : decode cX11_travels 62 = .ok (.iconst 2, 1) := by decide +kernel
theorem dX11_travels_63 : decode cX11_travels 63 = .ok (.iload 6, 2) := by decide +kernel
theorem dX11_travels_65 : decode cX11_travels 65 = .ok (.imul, 1) := by decide +kernel
theorem dX11_travels_66 : decode cX11_travels 66 = .ok (.iadd, 1) := by decide +kernel
theorem dX11_travels_67 : decode cX11_travels 67 = .ok (.iconst 1, 1) := by decide +kernel
theorem dX11_travels_68 : decode cX11_travels 68 = .ok (.iadd, 1) := by decide +kernel
theorem dX11_travels_69 : decode cX11_travels 69 = .ok (.iaload, 1) := by decide +kernel
theorem dX11_travels_70 : decode cX11_travels 70 = .ok (.iconst 1, 1) := by decide +kernel
theorem dX11_travels_71 : decode cX11_travels 71 = .ok (.if_icmp .ne 73, 3) := by decide +kernel
theorem dX11_travels_74 : decode cX11_travels 74 = .ok (.aload_n 0, 1) := by decide +kernel
theorem dX11_travels_75 : decode cX11_travels 75 = .ok (.iload 6, 2) := by decide +kernel
theorem dX11_travels_77 : decode cX11_travels 77 = .ok (.iload_n 2, 1) := by decide +kernel
theorem dX11_travels_78 : decode cX11_travels 78 = .ok (.iload_n 3, 1) := by decide +kernel
theorem dX11_travels_79 : decode cX11_travels 79 = .ok (.iload 4, 2) := by decide +kernel
theorem dX11_travels_81 : decode cX11_travels 81 = .ok (.invokevirtual 258, 3) := by decide +kernel
theorem dX11_travels_84 : decode cX11_travels 84 = .ok (.ifCond .eq 60, 3) := by decide +kernel
theorem dX11_travels_87 : decode cX11_travels 87 = .ok (.aload_n 0, 1) := by decide +kernel
theorem dX11_travels_88 : decode cX11_travels 88 = .ok (.iconst 1, 1) := by decide +kernel
theorem dX11_travels_89 : decode cX11_travels 89 = .ok (.iload_n 1, 1) := by decide +kernel
theorem dX11_travels_90 : decode cX11_travels 90 = .ok (.iload 6, 2) := by decide +kernel
theorem dX11_travels_92 : decode cX11_travels 92 = .ok (.invokevirtual 234, 3) := by decide +kernel
theorem dX11_travels_95 : decode cX11_travels 95 = .ok (.aload_n 0, 1) := by decide +kernel
theorem dX11_travels_96 : decode cX11_travels 96 = .ok (.iload_n 1, 1) := by decide +kernel
theorem dX11_travels_97 : decode cX11_travels 97 = .ok (.iconst 1, 1) := by decide +kernel
theorem dX11_travels_98 : decode cX11_travels 98 = .ok (.invokevirtual 164, 3) := by decide +kernel
theorem dX11_travels_101 : decode cX11_travels 101 = .ok (.istore 7, 2) := by decide +kernel
theorem dX11_travels_103 : decode cX11_travels 103 = .ok (.aload_n 0, 1) := by decide +kernel
theorem dX11_travels_104 : decode cX11_travels 104 = .ok (.iload_n 1, 1) := by decide +kernel
theorem dX11_travels_105 : decode cX11_travels 105 = .ok (.iconst 5, 1) := by decide +kernel
theorem dX11_travels_106 : decode cX11_travels 106 = .ok (.invokevirtual 164, 3) := by decide +kernel
theorem dX11_travels_109 : decode cX11_travels 109 = .ok (.iconst 1, 1) := by decide +kernel
theorem dX11_travels_110 : decode cX11_travels 110 = .ok (.iadd, 1) := by decide +kernel
theorem dX11_travels_111 : decode cX11_travels 111 = .ok (.istore 8, 2) := by decide +kernel
theorem dX11_travels_113 : decode cX11_travels 113 = .ok (.aload_n 0, 1) := by decide +kernel
theorem dX11_travels_114 : decode cX11_travels 114 = .ok (.iload_n 1, 1) := by decide +kernel
theorem dX11_travels_115 : decode cX11_travels 115 = .ok (.bipush 7, 2) := by decide +kernel
theorem dX11_travels_117 : decode cX11_travels 117 = .ok (.invokevirtual 164, 3) := by decide +kernel
theorem dX11_travels_120 : decode cX11_travels 120 = .ok (.istore 9, 2) := by decide +kernel
theorem dX11_travels_122 : decode cX11_travels 122 = .ok (.aload_n 0, 1) := by decide +kernel
theorem dX11_travels_123 : decode cX11_travels 123 = .ok (.iload_n 1, 1) := by decide +kernel
theorem dX11_travels_124 : decode cX11_travels 124 = .ok (.invokevirtual 237, 3) := by decide +kernel
theorem dX11_travels_127 : decode cX11_travels 127 = .ok (.aload_n 0, 1) := by decide +kernel
theorem dX11_travels_128 : decode cX11_travels 128 = .ok (.iload 6, 2) := by decide +kernel
theorem dX11_travels_130 : decode cX11_travels 130 = .ok (.iload 7, 2) := by decide +kernel
theorem dX11_travels_132 : decode cX11_travels 132 = .ok (.iload_n 3, 1) := by decide +kernel
theorem dX11_travels_133 : decode cX11_travels 133 = .ok (.iload 4, 2) := by decide +kernel
theorem dX11_travels_135 : decode cX11_travels 135 = .ok (.iload 8, 2) := by decide +kernel
theorem dX11_travels_137 : decode cX11_travels 137 = .ok (.iload 9, 2) := by decide +kernel
theorem dX11_travels_139 : decode cX11_travels 139 = .ok (.invokevirtual 214, 3) := by decide +kernel
theorem dX11_travels_142 : decode cX11_travels 142 = .ok (.iconst 0, 1) := by decide +kernel
theorem dX11_travels_143 : decode cX11_travels 143 = .ok (.ireturn, 1) := by decide +kernel
theorem dX11_travels_144 : decode cX11_travels 144 = .ok (.iinc 5 1, 3) := by decide +kernel
theorem dX11_travels_147 : decode cX11_travels 147 = .ok (.goto (-122), 3) := by decide +kernel
theorem dX11_travels_150 : decode cX11_travels 150 = .ok (.aload_n 0, 1) := by decide +kernel
theorem dX11_travels_151 : decode cX11_travels 151 = .ok (.iload_n 1, 1) := by decide +kernel
theorem dX11_travels_152 : decode cX11_travels 152 = .ok (.iconst 4, 1) := by decide +kernel
theorem dX11_travels_153 : decode cX11_travels 153 = .ok (.invokevirtual 164, 3) := by decide +kernel
theorem dX11_travels_156 : decode cX11_travels 156 = .ok (.iconst 1, 1) := by decide +kernel
theorem dX11_travels_157 : decode cX11_travels 157 = .ok (.iadd, 1) := by decide +kernel
theorem dX11_travels_158 : decode cX11_travels 158 = .ok (.istore 5, 2) := by decide +kernel
theorem dX11_travels_160 : decode cX11_travels 160 = .ok (.iload 5, 2) := by decide +kernel
theorem dX11_travels_162 : decode cX11_travels 162 = .ok (.iconst 5, 1) := by decide +kernel
theorem dX11_travels_163 : decode cX11_travels 163 = .ok (.if_icmp .ne 10, 3) := by decide +kernel
theorem dX11_travels_166 : decode cX11_travels 166 = .ok (.aload_n 0, 1) := by decide +kernel
theorem dX11_travels_167 : decode cX11_travels 167 = .ok (.iload_n 1, 1) := by decide +kernel
theorem dX11_travels_168 : decode cX11_travels 168 = .ok (.invokevirtual 252, 3) := by decide +kernel
theorem dX11_travels_171 : decode cX11_travels 171 = .ok (.iconst 0, 1) := by decide +kernel
theorem dX11_travels_172 : decode cX11_travels 172 = .ok (.ireturn, 1) := by decide +kernel
theorem dX11_travels_173 : decode cX11_travels 173 = .ok (.aload_n 0, 1) := by decide +kernel
theorem dX11_travels_174 : decode cX11_travels 174 = .ok (.bipush 6, 2) := by decide +kernel
theorem dX11_travels_176 : decode cX11_travels 176 = .ok (.iload_n 1, 1) := by decide +kernel
theorem dX11_travels_177 : decode cX11_travels 177 = .ok (.iload_n 2, 1) := by decide +kernel
theorem dX11_travels_178 : decode cX11_travels 178 = .ok (.invokevirtual 234, 3) := by decide +kernel
theorem dX11_travels_181 : decode cX11_travels 181 = .ok (.aload_n 0, 1) := by decide +kernel
theorem dX11_travels_182 : decode cX11_travels 182 = .ok (.iload_n 1, 1) := by decide +kernel
theorem dX11_travels_183 : decode cX11_travels 183 = .ok (.iconst 4, 1) := by decide +kernel
theorem dX11_travels_184 : decode cX11_travels 184 = .ok (.iload 5, 2) := by decide +kernel
theorem dX11_travels_186 : decode cX11_travels 186 = .ok (.invokevirtual 206, 3) := by decide +kernel
theorem dX11_travels_189 : decode cX11_travels 189 = .ok (.aload_n 0, 1) := by decide +kernel
theorem dX11_travels_190 : decode cX11_travels 190 = .ok (.iload_n 1, 1) := by decide +kernel
theorem dX11_travels_191 : decode cX11_travels 191 = .ok (.bipush 6, 2) := by decide +kernel
theorem dX11_travels_193 : decode cX11_travels 193 = .ok (.aload_n 0, 1) := by decide +kernel
theorem dX11_travels_194 : decode cX11_travels 194 = .ok (.getfield 7, 3) := by decide +kernel
theorem dX11_travels_197 : decode cX11_travels 197 = .ok (.iconst 2, 1) := by decide +kernel
theorem dX11_travels_198 : decode cX11_travels 198 = .ok (.iaload, 1) := by decide +kernel
theorem dX11_travels_199 : decode cX11_travels 199 = .ok (.iconst 1, 1) := by decide +kernel
theorem dX11_travels_200 : decode cX11_travels 200 = .ok (.iload 5, 2) := by decide +kernel
theorem dX11_travels_202 : decode cX11_travels 202 = .ok (.iconst 1, 1) := by decide +kernel
theorem dX11_travels_203 : decode cX11_travels 203 = .ok (.isub, 1) := by decide +kernel
theorem dX11_travels_204 : decode cX11_travels 204 = .ok (.ishl, 1) := by decide +kernel
theorem dX11_travels_205 : decode cX11_travels 205 = .ok (.iadd, 1) := by decide +kernel
theorem dX11_travels_206 : decode cX11_travels 206 = .ok (.invokevirtual 206, 3) := by decide +kernel
theorem dX11_travels_209 : decode cX11_travels 209 = .ok (.iconst 1, 1) := by decide +kernel
theorem dX11_travels_210 : decode cX11_travels 210 = .ok (.ireturn, 1) := by decide +kernel
theorem dX11_isHandled_0 : decode cX11_isHandled 0 = .ok (.aload_n 0, 1) := by decide +kernel
theorem dX11_isHandled_1 : decode cX11_isHandled 1 = .ok (.iload_n 1, 1) := by decide +kernel
theorem dX11_isHandled_2 : decode cX11_isHandled 2 = .ok (.iconst 3, 1) := by decide +kernel
theorem dX11_isHandled_3 : decode cX11_isHandled 3 = .ok (.invokevirtual 164, 3) := by decide +kernel
theorem dX11_isHandled_6 : decode cX11_isHandled 6 = .ok (.bipush 8, 2) := by decide +kernel
theorem dX11_isHandled_8 : decode cX11_isHandled 8 = .ok (.idiv, 1) := by decide +kernel
theorem dX11_isHandled_9 : decode cX11_isHandled 9 = .ok (.istore_n 2, 1) := by decide +kernel
theorem dX11_isHandled_10 : decode cX11_isHandled 10 = .ok (.aload_n 0, 1) := by decide +kernel
theorem dX11_isHandled_11 : decode cX11_isHandled 11 = .ok (.iload_n 1, 1) := by decide +kernel
theorem dX11_isHandled_12 : decode cX11_isHandled 12 = .ok (.iconst 5, 1) := by decide +kernel
theorem dX11_isHandled_13 : decode cX11_isHandled 13 = .ok (.invokevirtual 164, 3) := by decide +kernel
theorem dX11_isHandled_16 : decode cX11_isHandled 16 = .ok (.bipush 8, 2) := by decide +kernel
theorem dX11_isHandled_18 : decode cX11_isHandled 18 = .ok (.if_icmp .eq 11, 3) := by decide +kernel
theorem dX11_isHandled_21 : decode cX11_isHandled 21 = .ok (.aload_n 0, 1) := by decide +kernel
theorem dX11_isHandled_22 : decode cX11_isHandled 22 = .ok (.iload_n 2, 1) := by decide +kernel
theorem dX11_isHandled_23 : decode cX11_isHandled 23 = .ok (.invokevirtual 145, 3) := by decide +kernel
theorem dX11_isHandled_26 : decode cX11_isHandled 26 = .ok (.ifCond .ne 10, 3) := by decide +kernel
theorem dX11_isHandled_29 : decode cX11_isHandled 29 = .ok (.aload_n 0, 1) := by decide +kernel
theorem dX11_isHandled_30 : decode cX11_isHandled 30 = .ok (.iload_n 1, 1) := by decide +kernel
theorem dX11_isHandled_31 : decode cX11_isHandled 31 = .ok (.invokevirtual 252, 3) := by decide +kernel
theorem dX11_isHandled_34 : decode cX11_isHandled 34 = .ok (.iconst 0, 1) := by decide +kernel
theorem dX11_isHandled_35 : decode cX11_isHandled 35 = .ok (.ireturn, 1) := by decide +kernel
theorem dX11_isHandled_36 : decode cX11_isHandled 36 = .ok (.aload_n 0, 1) := by decide +kernel
theorem dX11_isHandled_37 : decode cX11_isHandled 37 = .ok (.aload_n 0, 1) := by decide +kernel
theorem dX11_isHandled_38 : decode cX11_isHandled 38 = .ok (.iload_n 1, 1) := by decide +kernel
theorem dX11_isHandled_39 : decode cX11_isHandled 39 = .ok (.iconst 0, 1) := by decide +kernel
theorem dX11_isHandled_40 : decode cX11_isHandled 40 = .ok (.invokevirtual 164, 3) := by decide +kernel
theorem dX11_isHandled_43 : decode cX11_isHandled 43 = .ok (.iload_n 2, 1) := by decide +kernel
theorem dX11_isHandled_44 : decode cX11_isHandled 44 = .ok (.invokevirtual 173, 3) := by decide +kernel
theorem dX11_isHandled_47 : decode cX11_isHandled 47 = .ok (.ifCond .eq 11, 3) := by decide +kernel
theorem dX11_isHandled_50 : decode cX11_isHandled 50 = .ok (.aload_n 0, 1) := by decide +kernel
theorem dX11_isHandled_51 : decode cX11_isHandled 51 = .ok (.iload_n 1, 1) := by decide +kernel
theorem dX11_isHandled_52 : decode cX11_isHandled 52 = .ok (.invokevirtual 262, 3) := by decide +kernel
theorem dX11_isHandled_55 : decode cX11_isHandled 55 = .ok (.goto 8, 3) := by decide +kernel
theorem dX11_isHandled_58 : decode cX11_isHandled 58 = .ok (.aload_n 0, 1) := by decide +kernel
theorem dX11_isHandled_59 : decode cX11_isHandled 59 = .ok (.iload_n 1, 1) := by decide +kernel
theorem dX11_isHandled_60 : decode cX11_isHandled 60 = .ok (.invokevirtual 265, 3) := by decide +kernel
theorem dX11_isHandled_63 : decode cX11_isHandled 63 = .ok (.ireturn, 1) := by decide +kernel
theorem dX11_ticks_0 : decode cX11_ticks 0 = .ok (.aload_n 0, 1) := by decide +kernel
theorem dX11_ticks_1 : decode cX11_ticks 1 = .ok (.getfield 7, 3) := by decide +kernel
theorem dX11_ticks_4 : decode cX11_ticks 4 = .ok (.iconst 2, 1) := by decide +kernel
theorem dX11_ticks_5 : decode cX11_ticks 5 = .ok (.dup2, 1) := by decide +kernel
theorem dX11_ticks_6 : decode cX11_ticks 6 = .ok (.iaload, 1) := by decide +kernel
theorem dX11_ticks_7 : decode cX11_ticks 7 = .ok (.iconst 1, 1) := by decide +kernel
theorem dX11_ticks_8 : decode cX11_ticks 8 = .ok (.iadd, 1) := by decide +kernel
theorem dX11_ticks_9 : decode cX11_ticks 9 = .ok (.iastore, 1) := by decide +kernel
theorem dX11_ticks_10 : decode cX11_ticks 10 = .ok (.iconst 0, 1) := by decide +kernel
theorem dX11_ticks_11 : decode cX11_ticks 11 = .ok (.istore_n 1, 1) := by decide +kernel
theorem dX11_ticks_12 : decode cX11_ticks 12 = .ok (.iload_n 1, 1) := by decide +kernel
theorem dX11_ticks_13 : decode cX11_ticks 13 = .ok (.aload_n 0, 1) := by decide +kernel
theorem dX11_ticks_14 : decode cX11_ticks 14 = .ok (.getfield 7, 3) := by decide +kernel
theorem dX11_ticks_17 : decode cX11_ticks 17 = .ok (.iconst 0, 1) := by decide +kernel
theorem dX11_ticks_18 : decode cX11_ticks 18 = .ok (.iaload, 1) := by decide +kernel
theorem dX11_ticks_19 : decode cX11_ticks 19 = .ok (.if_icmp .ge 96, 3) := by decide +kernel
theorem dX11_ticks_22 : decode cX11_ticks 22 = .ok (.iconst 0, 1) := by decide +kernel
theorem dX11_ticks_23 : decode cX11_ticks 23 = .ok (.istore_n 2, 1) := by decide +kernel
theorem dX11_ticks_24 : decode cX11_ticks 24 = .ok (.iload_n 2, 1) := by decide +kernel
theorem dX11_ticks_25 : decode cX11_ticks 25 = .ok (.aload_n 0, 1) := by decide +kernel
theorem dX11_ticks_26 : decode cX11_ticks 26 = .ok (.getfield 7, 3) := by decide +kernel
theorem dX11_ticks_29 : decode cX11_ticks 29 = .ok (.iconst 4, 1) := by decide +kernel
theorem dX11_ticks_30 : decode cX11_ticks 30 = .ok (.iaload, 1) := by decide +kernel
theorem dX11_ticks_31 : decode cX11_ticks 31 = .ok (.if_icmp .ge 78, 3) := by decide +kernel
theorem dX11_ticks_34 : decode cX11_ticks 34 = .ok (.aload_n 0, 1) := by decide +kernel
theorem dX11_ticks_35 : decode cX11_ticks 35 = .ok (.getfield 7, 3) := by decide +kernel
theorem dX11_ticks_38 : decode cX11_ticks 38 = .ok (.bipush 16, 2) := by decide +kernel
theorem dX11_ticks_40 : decode cX11_ticks 40 = .ok (.iconst 2, 1) := by decide +kernel
theorem dX11_ticks_41 : decode cX11_ticks 41 = .ok (.iload_n 1, 1) := by decide +kernel
theorem dX11_ticks_42 : decode cX11_ticks 42 = .ok (.imul, 1) := by decide +kernel
theorem dX11_ticks_43 : decode cX11_ticks 43 = .ok (.iadd, 1) := by decide +kernel
theorem dX11_ticks_44 : decode cX11_ticks 44 = .ok (.iconst 1, 1) := by decide +kernel
theorem dX11_ticks_45 : decode cX11_ticks 45 = .ok (.iadd, 1) := by decide +kernel
theorem dX11_ticks_46 : decode cX11_ticks 46 = .ok (.iaload, 1) := by decide +kernel
theorem dX11_ticks_47 : decode cX11_ticks 47 = .ok (.iconst 1, 1) := by decide +kernel
theorem dX11_ticks_48 : decode cX11_ticks 48 = .ok (.if_icmp .ne 61, 3) := by decide +kernel
theorem dX11_ticks_51 : decode cX11_ticks 51 = .ok (.aload_n 0, 1) := by decide +kernel
theorem dX11_ticks_52 : decode cX11_ticks 52 = .ok (.iload_n 2, 1) := by decide +kernel
theorem dX11_ticks_53 : decode cX11_ticks 53 = .ok (.iconst 0, 1) := by decide +kernel
theorem dX11_ticks_54 : decode cX11_ticks 54 = .ok (.invokevirtual 164, 3) := by decide +kernel
theorem dX11_ticks_57 : decode cX11_ticks 57 = .ok (.iload_n 1, 1) := by decide +kernel
theorem dX11_ticks_58 : decode cX11_ticks 58 = .ok (.if_icmp .ne 23, 3) := by decide +kernel
theorem dX11_ticks_61 : decode cX11_ticks 61 = .ok (.aload_n 0, 1) := by decide +kernel
theorem dX11_ticks_62 : decode cX11_ticks 62 = .ok (.iload_n 2, 1) := by decide +kernel
theorem dX11_ticks_63 : decode cX11_ticks 63 = .ok (.bipush 6, 2) := by decide +kernel
theorem dX11_ticks_65 : decode cX11_ticks 65 = .ok (.invokevirtual 164, 3) := by decide +kernel
theorem dX11_ticks_68 : decode cX11_ticks 68 = .ok (.aload_n 0, 1) := by decide +kernel
theorem dX11_ticks_69 : decode cX11_ticks 69 = .ok (.getfield 7, 3) := by decide +kernel
theorem dX11_ticks_72 : decode cX11_ticks 72 = .ok (.iconst 2, 1) := by decide +kernel
theorem dX11_ticks_73 : decode cX11_ticks 73 = .ok (.iaload, 1) := by decide +kernel
theorem dX11_ticks_74 : decode cX11_ticks 74 = .ok (.if_icmp .gt 7, 3) := by decide +kernel
theorem dX11_ticks_77 : decode cX11_ticks 77 = .ok (.iconst 1, 1) := by decide +kernel
theorem dX11_ticks_78 : decode cX11_ticks 78 = .ok (.goto 4, 3) := by decide +kernel
theorem dX11_ticks_81 : decode cX11_ticks 81 = .ok (.iconst 0, 1) := by decide +kernel
theorem dX11_ticks_82 : decode cX11_ticks 82 = .ok (.istore_n 3, 1) := by decide +kernel
theorem dX11_ticks_83 : decode cX11_ticks 83 = .ok (.iload_n 2, 1) := by decide +kernel
theorem dX11_ticks_84 : decode cX11_ticks 84 = .ok (.iload_n 3, 1) := by decide +kernel
theorem dX11_ticks_85 : decode cX11_ticks 85 = .ok (.ifCond .eq 11, 3) := by decide +kernel
theorem dX11_ticks_88 : decode cX11_ticks 88 = .ok (.aload_n 0, 1) := by decide +kernel
theorem dX11_ticks_89 : decode cX11_ticks 89 = .ok (.iload_n 2, 1) := by decide +kernel
theorem dX11_ticks_90 : decode cX11_ticks 90 = .ok (.invokevirtual 268, 3) := by decide +kernel
theorem dX11_ticks_93 : decode cX11_ticks 93 = .ok (.ifCond .eq 7, 3) := by decide +kernel
theorem dX11_ticks_96 : decode cX11_ticks 96 = .ok (.iconst 1, 1) := by decide +kernel
theorem dX11_ticks_97 : decode cX11_ticks 97 = .ok (.goto 4, 3) := by decide +kernel
theorem dX11_ticks_100 : decode cX11_ticks 100 = .ok (.iconst 0, 1) := by decide +kernel
theorem dX11_ticks_101 : decode cX11_ticks 101 = .ok (.invokestatic 104, 3) := by decide +kernel
theorem dX11_ticks_104 : decode cX11_ticks 104 = .ok (.iadd, 1) := by decide +kernel
theorem dX11_ticks_105 : decode cX11_ticks 105 = .ok (.istore_n 2, 1) := by decide +kernel
theorem dX11_ticks_106 : decode cX11_ticks 106 = .ok (.goto (-82), 3) := by decide +kernel
theorem dX11_ticks_109 : decode cX11_ticks 109 = .ok (.iinc 1 1, 3) := by decide +kernel
theorem dX11_ticks_112 : decode cX11_ticks 112 = .ok (.goto (-100), 3) := by decide +kernel
theorem dX11_ticks_115 : decode cX11_ticks 115 = .ok (.return_, 1) := by decide +kernel
theorem dX11_tick_0 : decode cX11_tick 0 = .ok (.iload_n 1, 1) := by decide +kernel
theorem dX11_tick_1 : decode cX11_tick 1 = .ok (.i2l, 1) := by decide +kernel
theorem dX11_tick_2 : decode cX11_tick 2 = .ok (.lconst 1, 1) := by decide +kernel
theorem dX11_tick_3 : decode cX11_tick 3 = .ok (.ldc2_w 232, 3) := by decide +kernel
theorem dX11_tick_6 : decode cX11_tick 6 = .ok (.invokestatic 52, 3) := by decide +kernel
theorem dX11_tick_9 : decode cX11_tick 9 = .ok (.ifCond .ne 5, 3) := by decide +kernel
theorem dX11_tick_12 : decode cX11_tick 12 = .ok (.iconst (-1), 1) := by decide +kernel
theorem dX11_tick_13 : decode cX11_tick 13 = .ok (.ireturn, 1) := by decide +kernel
theorem dX11_tick_14 : decode cX11_tick 14 = .ok (.aload_n 0, 1) := by decide +kernel
theorem dX11_tick_15 : decode cX11_tick 15 = .ok (.getfield 7, 3) := by decide +kernel
theorem dX11_tick_18 : decode cX11_tick 18 = .ok (.bipush 9, 2) := by decide +kernel
theorem dX11_tick_20 : decode cX11_tick 20 = .ok (.iaload, 1) := by decide +kernel
theorem dX11_tick_21 : decode cX11_tick 21 = .ok (.istore_n 2, 1) := by decide +kernel
theorem dX11_tick_22 : decode cX11_tick 22 = .ok (.iconst 0, 1) := by decide +kernel
theorem dX11_tick_23 : decode cX11_tick 23 = .ok (.istore_n 3, 1) := by decide +kernel
theorem dX11_tick_24 : decode cX11_tick 24 = .ok (.iload_n 3, 1) := by decide +kernel
theorem dX11_tick_25 : decode cX11_tick 25 = .ok (.iload_n 1, 1) := by decide +kernel
theorem dX11_tick_26 : decode cX11_tick 26 = .ok (.if_icmp .ge 13, 3) := by decide +kernel
theorem dX11_tick_29 : decode cX11_tick 29 = .ok (.aload_n 0, 1) := by decide +kernel
theorem dX11_tick_30 : decode cX11_tick 30 = .ok (.invokevirtual 271, 3) := by decide +kernel
theorem dX11_tick_33 : decode cX11_tick 33 = .ok (.iinc 3 1, 3) := by decide +kernel
theorem dX11_tick_36 : decode cX11_tick 36 = .ok (.goto (-12), 3) := by decide +kernel
theorem dX11_tick_39 : decode cX11_tick 39 = .ok (.aload_n 0, 1) := by decide +kernel
theorem dX11_tick_40 : decode cX11_tick 40 = .ok (.getfield 7, 3) := by decide +kernel
theorem dX11_tick_43 : decode cX11_tick 43 = .ok (.bipush 9, 2) := by decide +kernel
theorem dX11_tick_45 : decode cX11_tick 45 = .ok (.iaload, 1) := by decide +kernel
theorem dX11_tick_46 : decode cX11_tick 46 = .ok (.iload_n 2, 1) := by decide +kernel
theorem dX11_tick_47 : decode cX11_tick 47 = .ok (.isub, 1) := by decide +kernel
theorem dX11_tick_48 : decode cX11_tick 48 = .ok (.ireturn, 1) := by decide +kernel
theorem dX11_run_0 : decode cX11_run 0 = .ok (.iload_n 1, 1) := by decide +kernel
theorem dX11_run_1 : decode cX11_run 1 = .ok (.i2l, 1) := by decide +kernel
theorem dX11_run_2 : decode cX11_run 2 = .ok (.lconst 1, 1) := by decide +kernel
theorem dX11_run_3 : decode cX11_run 3 = .ok (.ldc2_w 274, 3) := by decide +kernel
theorem dX11_run_6 : decode cX11_run 6 = .ok (.invokestatic 52, 3) := by decide +kernel
theorem dX11_run_9 : decode cX11_run 9 = .ok (.ifCond .ne 5, 3) := by decide +kernel
theorem dX11_run_12 : decode cX11_run 12 = .ok (.iconst (-1), 1) := by decide +kernel
theorem dX11_run_13 : decode cX11_run 13 = .ok (.ireturn, 1) := by decide +kernel
theorem dX11_run_14 : decode cX11_run 14 = .ok (.iconst 0, 1) := by decide +kernel
theorem dX11_run_15 : decode cX11_run 15 = .ok (.istore_n 2, 1) := by decide +kernel
theorem dX11_run_16 : decode cX11_run 16 = .ok (.iload_n 2, 1) := by decide +kernel
theorem dX11_run_17 : decode cX11_run 17 = .ok (.iload_n 1, 1) := by decide +kernel
theorem dX11_run_18 : decode cX11_run 18 = .ok (.if_icmp .ge 22, 3) := by decide +kernel
theorem dX11_run_21 : decode cX11_run 21 = .ok (.aload_n 0, 1) := by decide +kernel
theorem dX11_run_22 : decode cX11_run 22 = .ok (.getfield 7, 3) := by decide +kernel
theorem dX11_run_25 : decode cX11_run 25 = .ok (.iconst 4, 1) := by decide +kernel
theorem dX11_run_26 : decode cX11_run 26 = .ok (.iaload, 1) := by decide +kernel
theorem dX11_run_27 : decode cX11_run 27 = .ok (.ifCond .le 13, 3) := by decide +kernel
theorem dX11_run_30 : decode cX11_run 30 = .ok (.aload_n 0, 1) := by decide +kernel
theorem dX11_run_31 : decode cX11_run 31 = .ok (.invokevirtual 271, 3) := by decide +kernel
theorem dX11_run_34 : decode cX11_run 34 = .ok (.iinc 2 1, 3) := by decide +kernel
theorem dX11_run_37 : decode cX11_run 37 = .ok (.goto (-21), 3) := by decide +kernel
theorem dX11_run_40 : decode cX11_run 40 = .ok (.iload_n 2, 1) := by decide +kernel
theorem dX11_run_41 : decode cX11_run 41 = .ok (.ireturn, 1) := by decide +kernel
theorem dX11_set_0 : decode cX11_set 0 = .ok (.aload_n 0, 1) := by decide +kernel
theorem dX11_set_1 : decode cX11_set 1 = .ok (.iload_n 1, 1) := by decide +kernel
theorem dX11_set_2 : decode cX11_set 2 = .ok (.invokevirtual 177, 3) := by decide +kernel
theorem dX11_set_5 : decode cX11_set 5 = .ok (.ifCond .eq 13, 3) := by decide +kernel
theorem dX11_set_8 : decode cX11_set 8 = .ok (.iload_n 2, 1) := by decide +kernel
theorem dX11_set_9 : decode cX11_set 9 = .ok (.i2l, 1) := by decide +kernel
theorem dX11_set_10 : decode cX11_set 10 = .ok (.lconst 0, 1) := by decide +kernel
theorem dX11_set_11 : decode cX11_set 11 = .ok (.lconst 1, 1) := by decide +kernel
theorem dX11_set_12 : decode cX11_set 12 = .ok (.invokestatic 52, 3) := by decide +kernel
theorem dX11_set_15 : decode cX11_set 15 = .ok (.ifCond .ne 5, 3) := by decide +kernel
theorem dX11_set_18 : decode cX11_set 18 = .ok (.iconst (-1), 1) := by decide +kernel
theorem dX11_set_19 : decode cX11_set 19 = .ok (.ireturn, 1) := by decide +kernel
theorem dX11_set_20 : decode cX11_set 20 = .ok (.aload_n 0, 1) := by decide +kernel
theorem dX11_set_21 : decode cX11_set 21 = .ok (.getfield 7, 3) := by decide +kernel
theorem dX11_set_24 : decode cX11_set 24 = .ok (.bipush 16, 2) := by decide +kernel
theorem dX11_set_26 : decode cX11_set 26 = .ok (.iconst 2, 1) := by decide +kernel
theorem dX11_set_27 : decode cX11_set 27 = .ok (.iload_n 1, 1) := by decide +kernel
theorem dX11_set_28 : decode cX11_set 28 = .ok (.imul, 1) := by decide +kernel
theorem dX11_set_29 : decode cX11_set 29 = .ok (.iadd, 1) := by decide +kernel
theorem dX11_set_30 : decode cX11_set 30 = .ok (.iconst 1, 1) := by decide +kernel
theorem dX11_set_31 : decode cX11_set 31 = .ok (.iadd, 1) := by decide +kernel
theorem dX11_set_32 : decode cX11_set 32 = .ok (.iaload, 1) := by decide +kernel
theorem dX11_set_33 : decode cX11_set 33 = .ok (.istore_n 3, 1) := by decide +kernel
theorem dX11_set_34 : decode cX11_set 34 = .ok (.aload_n 0, 1) := by decide +kernel
theorem dX11_set_35 : decode cX11_set 35 = .ok (.getfield 7, 3) := by decide +kernel
theorem dX11_set_38 : decode cX11_set 38 = .ok (.bipush 16, 2) := by decide +kernel
theorem dX11_set_40 : decode cX11_set 40 = .ok (.iconst 2, 1) := by decide +kernel
theorem dX11_set_41 : decode cX11_set 41 = .ok (.iload_n 1, 1) := by decide +kernel
theorem dX11_set_42 : decode cX11_set 42 = .ok (.imul, 1) := by decide +kernel
theorem dX11_set_43 : decode cX11_set 43 = .ok (.iadd, 1) := by decide +kernel
theorem dX11_set_44 : decode cX11_set 44 = .ok (.iconst 1, 1) := by decide +kernel
theorem dX11_set_45 : decode cX11_set 45 = .ok (.iadd, 1) := by decide +kernel
theorem dX11_set_46 : decode cX11_set 46 = .ok (.iload_n 2, 1) := by decide +kernel
theorem dX11_set_47 : decode cX11_set 47 = .ok (.iastore, 1) := by decide +kernel
theorem dX11_set_48 : decode cX11_set 48 = .ok (.iload_n 3, 1) := by decide +kernel
theorem dX11_set_49 : decode cX11_set 49 = .ok (.ireturn, 1) := by decide +kernel
theorem dX11_itemOf_0 : decode cX11_itemOf 0 = .ok (.iload_n 2, 1) := by decide +kernel
theorem dX11_itemOf_1 : decode cX11_itemOf 1 = .ok (.istore_n 3, 1) := by decide +kernel
theorem dX11_itemOf_2 : decode cX11_itemOf 2 = .ok (.iconst 0, 1) := by decide +kernel
theorem dX11_itemOf_3 : decode cX11_itemOf 3 = .ok (.istore 4, 2) := by decide +kernel
theorem dX11_itemOf_5 : decode cX11_itemOf 5 = .ok (.iload 4, 2) := by decide +kernel
theorem dX11_itemOf_7 : decode cX11_itemOf 7 = .ok (.aload_n 0, 1) := by decide +kernel
theorem dX11_itemOf_8 : decode cX11_itemOf 8 = .ok (.getfield 7, 3) := by decide +kernel
theorem dX11_itemOf_11 : decode cX11_itemOf 11 = .ok (.iconst 4, 1) := by decide +kernel
theorem dX11_itemOf_12 : decode cX11_itemOf 12 = .ok (.iaload, 1) := by decide +kernel
theorem dX11_itemOf_13 : decode cX11_itemOf 13 = .ok (.if_icmp .ge 30, 3) := by decide +kernel
theorem dX11_itemOf_16 : decode cX11_itemOf 16 = .ok (.aload_n 0, 1) := by decide +kernel
theorem dX11_itemOf_17 : decode cX11_itemOf 17 = .ok (.iload 4, 2) := by decide +kernel
theorem dX11_itemOf_19 : decode cX11_itemOf 19 = .ok (.iconst 0, 1) := by decide +kernel
theorem dX11_itemOf_20 : decode cX11_itemOf 20 = .ok (.invokevirtual 164, 3) := by decide +kernel
theorem dX11_itemOf_23 : decode cX11_itemOf 23 = .ok (.iload_n 1, 1) := by decide +kernel
theorem dX11_itemOf_24 : decode cX11_itemOf 24 = .ok (.if_icmp .ne 13, 3) := by decide +kernel
theorem dX11_itemOf_27 : decode cX11_itemOf 27 = .ok (.iload_n 3, 1) := by decide +kernel
theorem dX11_itemOf_28 : decode cX11_itemOf 28 = .ok (.ifCond .ne 6, 3) := by decide +kernel
theorem dX11_itemOf_31 : decode cX11_itemOf 31 = .ok (.iload 4, 2) := by decide +kernel
theorem dX11_itemOf_33 : decode cX11_itemOf 33 = .ok (.ireturn, 1) := by decide +kernel
theorem dX11_itemOf_34 : decode cX11_itemOf 34 = .ok (.iinc 3 (-1), 3) := by decide +kernel
theorem dX11_itemOf_37 : decode cX11_itemOf 37 = .ok (.iinc 4 1, 3) := by decide +kernel
theorem dX11_itemOf_40 : decode cX11_itemOf 40 = .ok (.goto (-35), 3) := by decide +kernel
theorem dX11_itemOf_43 : decode cX11_itemOf 43 = .ok (.bipush (-4), 2) := by decide +kernel
theorem dX11_itemOf_45 : decode cX11_itemOf 45 = .ok (.ireturn, 1) := by decide +kernel
theorem dX11_marksOf_0 : decode cX11_marksOf 0 = .ok (.iconst 0, 1) := by decide +kernel
theorem dX11_marksOf_1 : decode cX11_marksOf 1 = .ok (.istore_n 2, 1) := by decide +kernel
theorem dX11_marksOf_2 : decode cX11_marksOf 2 = .ok (.iconst 0, 1) := by decide +kernel
theorem dX11_marksOf_3 : decode cX11_marksOf 3 = .ok (.istore_n 3, 1) := by decide +kernel
theorem dX11_marksOf_4 : decode cX11_marksOf 4 = .ok (.iload_n 3, 1) := by decide +kernel
theorem dX11_marksOf_5 : decode cX11_marksOf 5 = .ok (.bipush 32, 2) := by decide +kernel
theorem dX11_marksOf_7 : decode cX11_marksOf 7 = .ok (.if_icmp .ge 23, 3) := by decide +kernel
theorem dX11_marksOf_10 : decode cX11_marksOf 10 = .ok (.iload_n 2, 1) := by decide +kernel
theorem dX11_marksOf_11 : decode cX11_marksOf 11 = .ok (.aload_n 0, 1) := by decide +kernel
theorem dX11_marksOf_12 : decode cX11_marksOf 12 = .ok (.iload_n 1, 1) := by decide +kernel
theorem dX11_marksOf_13 : decode cX11_marksOf 13 = .ok (.bipush 7, 2) := by decide +kernel
theorem dX11_marksOf_15 : decode cX11_marksOf 15 = .ok (.invokevirtual 164, 3) := by decide +kernel
theorem dX11_marksOf_18 : decode cX11_marksOf 18 = .ok (.iload_n 3, 1) := by decide +kernel
theorem dX11_marksOf_19 : decode cX11_marksOf 19 = .ok (.ishr, 1) := by decide +kernel
theorem dX11_marksOf_20 : decode cX11_marksOf 20 = .ok (.iconst 1, 1) := by decide +kernel
theorem dX11_marksOf_21 : decode cX11_marksOf 21 = .ok (.iand, 1) := by decide +kernel
theorem dX11_marksOf_22 : decode cX11_marksOf 22 = .ok (.iadd, 1) := by decide +kernel
theorem dX11_marksOf_23 : decode cX11_marksOf 23 = .ok (.istore_n 2, 1) := by decide +kernel
theorem dX11_marksOf_24 : decode cX11_marksOf 24 = .ok (.iinc 3 1, 3) := by decide +kernel
theorem dX11_marksOf_27 : decode cX11_marksOf 27 = .ok (.goto (-23), 3) := by decide +kernel
theorem dX11_marksOf_30 : decode cX11_marksOf 30 = .ok (.iload_n 2, 1) := by decide +kernel
theorem dX11_marksOf_31 : decode cX11_marksOf 31 = .ok (.ireturn, 1) := by decide +kernel
theorem dX11_item_0 : decode cX11_item 0 = .ok (.aload_n 0, 1) := by decide +kernel
theorem dX11_item_1 : decode cX11_item 1 = .ok (.iload_n 1, 1) := by decide +kernel
theorem dX11_item_2 : decode cX11_item 2 = .ok (.invokevirtual 177, 3) := by decide +kernel
theorem dX11_item_5 : decode cX11_item 5 = .ok (.ifCond .eq 19, 3) := by decide +kernel
theorem dX11_item_8 : decode cX11_item 8 = .ok (.iload_n 2, 1) := by decide +kernel
theorem dX11_item_9 : decode cX11_item 9 = .ok (.ifCond .lt 15, 3) := by decide +kernel
theorem dX11_item_12 : decode cX11_item 12 = .ok (.iload_n 3, 1) := by decide +kernel
theorem dX11_item_13 : decode cX11_item 13 = .ok (.i2l, 1) := by decide +kernel
theorem dX11_item_14 : decode cX11_item 14 = .ok (.lconst 0, 1) := by decide +kernel
theorem dX11_item_15 : decode cX11_item 15 = .ok (.ldc2_w 276, 3) := by decide +kernel
theorem dX11_item_18 : decode cX11_item 18 = .ok (.invokestatic 52, 3) := by decide +kernel
theorem dX11_item_21 : decode cX11_item 21 = .ok (.ifCond .ne 5, 3) := by decide +kernel
theorem dX11_item_24 : decode cX11_item 24 = .ok (.iconst (-1), 1) := by decide +kernel
theorem dX11_item_25 : decode cX11_item 25 = .ok (.ireturn, 1) := by decide +kernel
theorem dX11_item_26 : decode cX11_item 26 = .ok (.aload_n 0, 1) := by decide +kernel
theorem dX11_item_27 : decode cX11_item 27 = .ok (.iload_n 1, 1) := by decide +kernel
theorem dX11_item_28 : decode cX11_item 28 = .ok (.iload_n 2, 1) := by decide +kernel
theorem dX11_item_29 : decode cX11_item 29 = .ok (.invokevirtual 278, 3) := by decide +kernel
theorem dX11_item_32 : decode cX11_item 32 = .ok (.istore 4, 2) := by decide +kernel
theorem dX11_item_34 : decode cX11_item 34 = .ok (.iload 4, 2) := by decide +kernel
theorem dX11_item_36 : decode cX11_item 36 = .ok (.bipush (-4), 2) := by decide +kernel
theorem dX11_item_38 : decode cX11_item 38 = .ok (.if_icmp .ne 6, 3) := by decide +kernel
theorem dX11_item_41 : decode cX11_item 41 = .ok (.bipush (-4), 2) := by decide +kernel
theorem dX11_item_43 : decode cX11_item 43 = .ok (.ireturn, 1) := by decide +kernel
theorem dX11_item_44 : decode cX11_item 44 = .ok (.iload_n 3, 1) := by decide +kernel
theorem dX11_item_45 : decode cX11_item 45 = .ok (.bipush 6, 2) := by decide +kernel
theorem dX11_item_47 : decode cX11_item 47 = .ok (.if_icmp .ne 12, 3) := by decide +kernel
theorem dX11_item_50 : decode cX11_item 50 = .ok (.aload_n 0, 1) := by decide +kernel
theorem dX11_item_51 : decode cX11_item 51 = .ok (.iload 4, 2) := by decide +kernel
theorem dX11_item_53 : decode cX11_item 53 = .ok (.invokevirtual 281, 3) := by decide +kernel
theorem dX11_item_56 : decode cX11_item 56 = .ok (.goto 12, 3) := by decide +kernel
theorem dX11_item_59 : decode cX11_item 59 = .ok (.aload_n 0, 1) := by decide +kernel
theorem dX11_item_60 : decode cX11_item 60 = .ok (.iload 4, 2) := by decide +kernel
theorem dX11_item_62 : decode cX11_item 62 = .ok (.iconst 1, 1) := by decide +kernel
theorem dX11_item_63 : decode cX11_item 63 = .ok (.iload_n 3, 1) := by decide +kernel
theorem dX11_item_64 : decode cX11_item 64 = .ok (.iadd, 1) := by decide +kernel
theorem dX11_item_65 : decode cX11_item 65 = .ok (.invokevirtual 164, 3) := by decide +kernel
theorem dX11_item_68 : decode cX11_item 68 = .ok (.ireturn, 1) := by decide +kernel
theorem dX11_asks_0 : decode cX11_asks 0 = .ok (.aload_n 0, 1) := by decide +kernel
theorem dX11_asks_1 : decode cX11_asks 1 = .ok (.iload_n 1, 1) := by decide +kernel
theorem dX11_asks_2 : decode cX11_asks 2 = .ok (.invokevirtual 177, 3) := by decide +kernel
theorem dX11_asks_5 : decode cX11_asks 5 = .ok (.ifCond .eq 25, 3) := by decide +kernel
theorem dX11_asks_8 : decode cX11_asks 8 = .ok (.iload_n 2, 1) := by decide +kernel
theorem dX11_asks_9 : decode cX11_asks 9 = .ok (.i2l, 1) := by decide +kernel
theorem dX11_asks_10 : decode cX11_asks 10 = .ok (.lconst 0, 1) := by decide +kernel
theorem dX11_asks_11 : decode cX11_asks 11 = .ok (.aload_n 0, 1) := by decide +kernel
theorem dX11_asks_12 : decode cX11_asks 12 = .ok (.getfield 7, 3) := by decide +kernel
theorem dX11_asks_15 : decode cX11_asks 15 = .ok (.iconst 1, 1) := by decide +kernel
theorem dX11_asks_16 : decode cX11_asks 16 = .ok (.iaload, 1) := by decide +kernel
theorem dX11_asks_17 : decode cX11_asks 17 = .ok (.iconst 1, 1) := by decide +kernel
theorem dX11_asks_18 : decode cX11_asks 18 = .ok (.isub, 1) := by decide +kernel
theorem dX11_asks_19 : decode cX11_asks 19 = .ok (.i2l, 1) := by decide +kernel
theorem dX11_asks_20 : decode cX11_asks 20 = .ok (.invokestatic 52, 3) := by decide +kernel
theorem dX11_asks_23 : decode cX11_asks 23 = .ok (.ifCond .eq 7, 3) := by decide +kernel
theorem dX11_asks_26 : decode cX11_asks 26 = .ok (.iload_n 3, 1) := by decide +kernel
theorem dX11_asks_27 : decode cX11_asks 27 = .ok (.ifCond .ge 5, 3) := by decide +kernel
theorem dX11_asks_30 : decode cX11_asks 30 = .ok (.iconst (-1), 1) := by decide +kernel
theorem dX11_asks_31 : decode cX11_asks 31 = .ok (.ireturn, 1) := by decide +kernel
theorem dX11_asks_32 : decode cX11_asks 32 = .ok (.aload_n 0, 1) := by decide +kernel
theorem dX11_asks_33 : decode cX11_asks 33 = .ok (.iload_n 1, 1) := by decide +kernel
theorem dX11_asks_34 : decode cX11_asks 34 = .ok (.iload_n 2, 1) := by decide +kernel
theorem dX11_asks_35 : decode cX11_asks 35 = .ok (.invokevirtual 173, 3) := by decide +kernel
theorem dX11_asks_38 : decode cX11_asks 38 = .ok (.ifCond .eq 8, 3) := by decide +kernel
theorem dX11_asks_41 : decode cX11_asks 41 = .ok (.bipush (-4), 2) := by decide +kernel
theorem dX11_asks_43 : decode cX11_asks 43 = .ok (.goto 10, 3) := by decide +kernel
theorem dX11_asks_46 : decode cX11_asks 46 = .ok (.aload_n 0, 1) := by decide +kernel
theorem dX11_asks_47 : decode cX11_asks 47 = .ok (.iload_n 1, 1) := by decide +kernel
theorem dX11_asks_48 : decode cX11_asks 48 = .ok (.iload_n 2, 1) := by decide +kernel
theorem dX11_asks_49 : decode cX11_asks 49 = .ok (.iload_n 3, 1) := by decide +kernel
theorem dX11_asks_50 : decode cX11_asks 50 = .ok (.invokevirtual 255, 3) := by decide +kernel
theorem dX11_asks_53 : decode cX11_asks 53 = .ok (.ireturn, 1) := by decide +kernel
theorem dX11_stranger_0 : decode cX11_stranger 0 = .ok (.aload_n 0, 1) := by decide +kernel
theorem dX11_stranger_1 : decode cX11_stranger 1 = .ok (.iload_n 1, 1) := by decide +kernel
theorem dX11_stranger_2 : decode cX11_stranger 2 = .ok (.invokevirtual 177, 3) := by decide +kernel
theorem dX11_stranger_5 : decode cX11_stranger 5 = .ok (.ifCond .eq 19, 3) := by decide +kernel
theorem dX11_stranger_8 : decode cX11_stranger 8 = .ok (.iload_n 2, 1) := by decide +kernel
theorem dX11_stranger_9 : decode cX11_stranger 9 = .ok (.ifCond .lt 15, 3) := by decide +kernel
theorem dX11_stranger_12 : decode cX11_stranger 12 = .ok (.iload_n 3, 1) := by decide +kernel
theorem dX11_stranger_13 : decode cX11_stranger 13 = .ok (.i2l, 1) := by decide +kernel
theorem dX11_stranger_14 : decode cX11_stranger 14 = .ok (.lconst 0, 1) := by decide +kernel
theorem dX11_stranger_15 : decode cX11_stranger 15 = .ok (.ldc2_w 284, 3) := by decide +kernel
theorem dX11_stranger_18 : decode cX11_stranger 18 = .ok (.invokestatic 52, 3) := by decide +kernel
theorem dX11_stranger_21 : decode cX11_stranger 21 = .ok (.ifCond .ne 5, 3) := by decide +kernel
theorem dX11_stranger_24 : decode cX11_stranger 24 = .ok (.iconst (-1), 1) := by decide +kernel
theorem dX11_stranger_25 : decode cX11_stranger 25 = .ok (.ireturn, 1) := by decide +kernel
theorem dX11_stranger_26 : decode cX11_stranger 26 = .ok (.iload_n 2, 1) := by decide +kernel
theorem dX11_stranger_27 : decode cX11_stranger 27 = .ok (.aload_n 0, 1) := by decide +kernel
theorem dX11_stranger_28 : decode cX11_stranger 28 = .ok (.iload_n 1, 1) := by decide +kernel
theorem dX11_stranger_29 : decode cX11_stranger 29 = .ok (.invokevirtual 167, 3) := by decide +kernel
theorem dX11_stranger_32 : decode cX11_stranger 32 = .ok (.if_icmp .ge 13, 3) := by decide +kernel
theorem dX11_stranger_35 : decode cX11_stranger 35 = .ok (.aload_n 0, 1) := by decide +kernel
theorem dX11_stranger_36 : decode cX11_stranger 36 = .ok (.iload_n 1, 1) := by decide +kernel
theorem dX11_stranger_37 : decode cX11_stranger 37 = .ok (.iload_n 2, 1) := by decide +kernel
theorem dX11_stranger_38 : decode cX11_stranger 38 = .ok (.iload_n 3, 1) := by decide +kernel
theorem dX11_stranger_39 : decode cX11_stranger 39 = .ok (.invokevirtual 170, 3) := by decide +kernel
theorem dX11_stranger_42 : decode cX11_stranger 42 = .ok (.goto 5, 3) := by decide +kernel
theorem dX11_stranger_45 : decode cX11_stranger 45 = .ok (.bipush (-4), 2) := by decide +kernel
theorem dX11_stranger_47 : decode cX11_stranger 47 = .ok (.ireturn, 1) := by decide +kernel
theorem dX11_log_0 : decode cX11_log 0 = .ok (.iload_n 1, 1) := by decide +kernel
theorem dX11_log_1 : decode cX11_log 1 = .ok (.ifCond .lt 15, 3) := by decide +kernel
theorem dX11_log_4 : decode cX11_log 4 = .ok (.iload_n 2, 1) := by decide +kernel
theorem dX11_log_5 : decode cX11_log 5 = .ok (.i2l, 1) := by decide +kernel
theorem dX11_log_6 : decode cX11_log 6 = .ok (.lconst 0, 1) := by decide +kernel
theorem dX11_log_7 : decode cX11_log 7 = .ok (.ldc2_w 284, 3) := by decide +kernel
theorem dX11_log_10 : decode cX11_log 10 = .ok (.invokestatic 52, 3) := by decide +kernel
theorem dX11_log_13 : decode cX11_log 13 = .ok (.ifCond .ne 5, 3) := by decide +kernel
theorem dX11_log_16 : decode cX11_log 16 = .ok (.iconst (-1), 1) := by decide +kernel
theorem dX11_log_17 : decode cX11_log 17 = .ok (.ireturn, 1) := by decide +kernel
theorem dX11_log_18 : decode cX11_log 18 = .ok (.iload_n 1, 1) := by decide +kernel
theorem dX11_log_19 : decode cX11_log 19 = .ok (.aload_n 0, 1) := by decide +kernel
theorem dX11_log_20 : decode cX11_log 20 = .ok (.getfield 7, 3) := by decide +kernel
theorem dX11_log_23 : decode cX11_log 23 = .ok (.iconst 5, 1) := by decide +kernel
theorem dX11_log_24 : decode cX11_log 24 = .ok (.iaload, 1) := by decide +kernel
theorem dX11_log_25 : decode cX11_log 25 = .ok (.if_icmp .ge 20, 3) := by decide +kernel
theorem dX11_log_28 : decode cX11_log 28 = .ok (.aload_n 0, 1) := by decide +kernel
theorem dX11_log_29 : decode cX11_log 29 = .ok (.getfield 7, 3) := by decide +kernel
theorem dX11_log_32 : decode cX11_log 32 = .ok (.sipush 1283, 3) := by decide +kernel
theorem dX11_log_35 : decode cX11_log 35 = .ok (.iconst 5, 1) := by decide +kernel
theorem dX11_log_36 : decode cX11_log 36 = .ok (.iload_n 1, 1) := by decide +kernel
theorem dX11_log_37 : decode cX11_log 37 = .ok (.imul, 1) := by decide +kernel
theorem dX11_log_38 : decode cX11_log 38 = .ok (.iadd, 1) := by decide +kernel
theorem dX11_log_39 : decode cX11_log 39 = .ok (.iload_n 2, 1) := by decide +kernel
theorem dX11_log_40 : decode cX11_log 40 = .ok (.iadd, 1) := by decide +kernel
theorem dX11_log_41 : decode cX11_log 41 = .ok (.iaload, 1) := by decide +kernel
theorem dX11_log_42 : decode cX11_log 42 = .ok (.goto 5, 3) := by decide +kernel
theorem dX11_log_45 : decode cX11_log 45 = .ok (.bipush (-4), 2) := by decide +kernel
theorem dX11_log_47 : decode cX11_log 47 = .ok (.ireturn, 1) := by decide +kernel
theorem dX11_gets_0 : decode cX11_gets 0 = .ok (.aload_n 0, 1) := by decide +kernel
theorem dX11_gets_1 : decode cX11_gets 1 = .ok (.aload_n 0, 1) := by decide +kernel
theorem dX11_gets_2 : decode cX11_gets 2 = .ok (.getfield 286, 3) := by decide +kernel
theorem dX11_gets_5 : decode cX11_gets 5 = .ok (.ldc_w 289, 3) := by decide +kernel
theorem dX11_gets_8 : decode cX11_gets 8 = .ok (.imul, 1) := by decide +kernel
theorem dX11_gets_9 : decode cX11_gets 9 = .ok (.sipush 12345, 3) := by decide +kernel
theorem dX11_gets_12 : decode cX11_gets 12 = .ok (.iadd, 1) := by decide +kernel
theorem dX11_gets_13 : decode cX11_gets 13 = .ok (.putfield 286, 3) := by decide +kernel
theorem dX11_gets_16 : decode cX11_gets 16 = .ok (.aload_n 0, 1) := by decide +kernel
theorem dX11_gets_17 : decode cX11_gets 17 = .ok (.getfield 286, 3) := by decide +kernel
theorem dX11_gets_20 : decode cX11_gets 20 = .ok (.bipush 16, 2) := by decide +kernel
theorem dX11_gets_22 : decode cX11_gets 22 = .ok (.ishr, 1) := by decide +kernel
theorem dX11_gets_23 : decode cX11_gets 23 = .ok (.sipush 32767, 3) := by decide +kernel
theorem dX11_gets_26 : decode cX11_gets 26 = .ok (.iand, 1) := by decide +kernel
theorem dX11_gets_27 : decode cX11_gets 27 = .ok (.ireturn, 1) := by decide +kernel
theorem dX11_draw_0 : decode cX11_draw 0 = .ok (.iload_n 2, 1) := by decide +kernel
theorem dX11_draw_1 : decode cX11_draw 1 = .ok (.i2l, 1) := by decide +kernel
theorem dX11_draw_2 : decode cX11_draw 2 = .ok (.lconst 1, 1) := by decide +kernel
theorem dX11_draw_3 : decode cX11_draw 3 = .ok (.ldc2_w 290, 3) := by decide +kernel
theorem dX11_draw_6 : decode cX11_draw 6 = .ok (.invokestatic 52, 3) := by decide +kernel
theorem dX11_draw_9 : decode cX11_draw 9 = .ok (.ifCond .ne 5, 3) := by decide +kernel
theorem dX11_draw_12 : decode cX11_draw 12 = .ok (.iconst (-1), 1) := by decide +kernel
theorem dX11_draw_13 : decode cX11_draw 13 = .ok (.ireturn, 1) := by decide +kernel
theorem dX11_draw_14 : decode cX11_draw 14 = .ok (.aload_n 0, 1) := by decide +kernel
theorem dX11_draw_15 : decode cX11_draw 15 = .ok (.getfield 7, 3) := by decide +kernel
theorem dX11_draw_18 : decode cX11_draw 18 = .ok (.iconst 0, 1) := by decide +kernel
theorem dX11_draw_19 : decode cX11_draw 19 = .ok (.iaload, 1) := by decide +kernel
theorem dX11_draw_20 : decode cX11_draw 20 = .ok (.ifCond .ne 6, 3) := by decide +kernel
theorem dX11_draw_23 : decode cX11_draw 23 = .ok (.bipush (-2), 2) := by decide +kernel
theorem dX11_draw_25 : decode cX11_draw 25 = .ok (.ireturn, 1) := by decide +kernel
theorem dX11_draw_26 : decode cX11_draw 26 = .ok (.aload_n 0, 1) := by decide +kernel
theorem dX11_draw_27 : decode cX11_draw 27 = .ok (.iload_n 1, 1) := by decide +kernel
theorem dX11_draw_28 : decode cX11_draw 28 = .ok (.putfield 286, 3) := by decide +kernel
theorem dX11_draw_31 : decode cX11_draw 31 = .ok (.iconst 0, 1) := by decide +kernel
theorem dX11_draw_32 : decode cX11_draw 32 = .ok (.istore_n 3, 1) := by decide +kernel
theorem dX11_draw_33 : decode cX11_draw 33 = .ok (.iconst 0, 1) := by decide +kernel
theorem dX11_draw_34 : decode cX11_draw 34 = .ok (.istore 4, 2) := by decide +kernel
theorem dX11_draw_36 : decode cX11_draw 36 = .ok (.iload 4, 2) := by decide +kernel
theorem dX11_draw_38 : decode cX11_draw 38 = .ok (.iload_n 2, 1) := by decide +kernel
theorem dX11_draw_39 : decode cX11_draw 39 = .ok (.if_icmp .ge 60, 3) := by decide +kernel
theorem dX11_draw_42 : decode cX11_draw 42 = .ok (.aload_n 0, 1) := by decide +kernel
theorem dX11_draw_43 : decode cX11_draw 43 = .ok (.invokevirtual 292, 3) := by decide +kernel
theorem dX11_draw_46 : decode cX11_draw 46 = .ok (.aload_n 0, 1) := by decide +kernel
theorem dX11_draw_47 : decode cX11_draw 47 = .ok (.getfield 7, 3) := by decide +kernel
theorem dX11_draw_50 : decode cX11_draw 50 = .ok (.iconst 0, 1) := by decide +kernel
theorem dX11_draw_51 : decode cX11_draw 51 = .ok (.iaload, 1) := by decide +kernel
theorem dX11_draw_52 : decode cX11_draw 52 = .ok (.irem, 1) := by decide +kernel
theorem dX11_draw_53 : decode cX11_draw 53 = .ok (.istore 5, 2) := by decide +kernel
theorem dX11_draw_55 : decode cX11_draw 55 = .ok (.aload_n 0, 1) := by decide +kernel
theorem dX11_draw_56 : decode cX11_draw 56 = .ok (.invokevirtual 292, 3) := by decide +kernel
theorem dX11_draw_59 : decode cX11_draw 59 = .ok (.bipush 32, 2) := by decide +kernel
theorem dX11_draw_61 : decode cX11_draw 61 = .ok (.irem, 1) := by decide +kernel
theorem dX11_draw_62 : decode cX11_draw 62 = .ok (.istore 6, 2) := by decide +kernel
theorem dX11_draw_64 : decode cX11_draw 64 = .ok (.iload_n 3, 1) := by decide +kernel
theorem dX11_draw_65 : decode cX11_draw 65 = .ok (.aload_n 0, 1) := by decide +kernel
theorem dX11_draw_66 : decode cX11_draw 66 = .ok (.iload 5, 2) := by decide +kernel
theorem dX11_draw_68 : decode cX11_draw 68 = .ok (.iload 6, 2) := by decide +kernel
theorem dX11_draw_70 : decode cX11_draw 70 = .ok (.aload_n 0, 1) := by decide +kernel
theorem dX11_draw_71 : decode cX11_draw 71 = .ok (.invokevirtual 292, 3) := by decide +kernel
theorem dX11_draw_74 : decode cX11_draw 74 = .ok (.bipush 32, 2) := by decide +kernel
theorem dX11_draw_76 : decode cX11_draw 76 = .ok (.irem, 1) := by decide +kernel
theorem dX11_draw_77 : decode cX11_draw 77 = .ok (.invokevirtual 295, 3) := by decide +kernel
theorem dX11_draw_80 : decode cX11_draw 80 = .ok (.ifCond .lt 7, 3) := by decide +kernel
theorem dX11_draw_83 : decode cX11_draw 83 = .ok (.iconst 1, 1) := by decide +kernel
theorem dX11_draw_84 : decode cX11_draw 84 = .ok (.goto 4, 3) := by decide +kernel
theorem dX11_draw_87 : decode cX11_draw 87 = .ok (.iconst 0, 1) := by decide +kernel
theorem dX11_draw_88 : decode cX11_draw 88 = .ok (.invokestatic 104, 3) := by decide +kernel
theorem dX11_draw_91 : decode cX11_draw 91 = .ok (.iadd, 1) := by decide +kernel
theorem dX11_draw_92 : decode cX11_draw 92 = .ok (.istore_n 3, 1) := by decide +kernel
theorem dX11_draw_93 : decode cX11_draw 93 = .ok (.iinc 4 1, 3) := by decide +kernel
theorem dX11_draw_96 : decode cX11_draw 96 = .ok (.goto (-60), 3) := by decide +kernel
theorem dX11_draw_99 : decode cX11_draw 99 = .ok (.iload_n 3, 1) := by decide +kernel
theorem dX11_draw_100 : decode cX11_draw 100 = .ok (.ireturn, 1) := by decide +kernel
theorem dX11_keep_0 : decode cX11_keep 0 = .ok (.iload_n 1, 1) := by decide +kernel
theorem dX11_keep_1 : decode cX11_keep 1 = .ok (.i2l, 1) := by decide +kernel
theorem dX11_keep_2 : decode cX11_keep 2 = .ok (.lconst 0, 1) := by decide +kernel
theorem dX11_keep_3 : decode cX11_keep 3 = .ok (.lconst 1, 1) := by decide +kernel
theorem dX11_keep_4 : decode cX11_keep 4 = .ok (.invokestatic 52, 3) := by decide +kernel
theorem dX11_keep_7 : decode cX11_keep 7 = .ok (.ifCond .ne 5, 3) := by decide +kernel
theorem dX11_keep_10 : decode cX11_keep 10 = .ok (.iconst (-1), 1) := by decide +kernel
theorem dX11_keep_11 : decode cX11_keep 11 = .ok (.ireturn, 1) := by decide +kernel
theorem dX11_keep_12 : decode cX11_keep 12 = .ok (.aload_n 0, 1) := by decide +kernel
theorem dX11_keep_13 : decode cX11_keep 13 = .ok (.getfield 19, 3) := by decide +kernel
theorem dX11_keep_16 : decode cX11_keep 16 = .ok (.iload_n 1, 1) := by decide +kernel
theorem dX11_keep_17 : decode cX11_keep 17 = .ok (.baload, 1) := by decide +kernel
theorem dX11_keep_18 : decode cX11_keep 18 = .ok (.invokestatic 104, 3) := by decide +kernel
theorem dX11_keep_21 : decode cX11_keep 21 = .ok (.istore_n 2, 1) := by decide +kernel
theorem dX11_keep_22 : decode cX11_keep 22 = .ok (.aload_n 0, 1) := by decide +kernel
theorem dX11_keep_23 : decode cX11_keep 23 = .ok (.getfield 19, 3) := by decide +kernel
theorem dX11_keep_26 : decode cX11_keep 26 = .ok (.iload_n 1, 1) := by decide +kernel
theorem dX11_keep_27 : decode cX11_keep 27 = .ok (.iconst 1, 1) := by decide +kernel
theorem dX11_keep_28 : decode cX11_keep 28 = .ok (.bastore, 1) := by decide +kernel
theorem dX11_keep_29 : decode cX11_keep 29 = .ok (.iconst 0, 1) := by decide +kernel
theorem dX11_keep_30 : decode cX11_keep 30 = .ok (.istore_n 3, 1) := by decide +kernel
theorem dX11_keep_31 : decode cX11_keep 31 = .ok (.iload_n 3, 1) := by decide +kernel
theorem dX11_keep_32 : decode cX11_keep 32 = .ok (.sipush 1583, 3) := by decide +kernel
theorem dX11_keep_35 : decode cX11_keep 35 = .ok (.if_icmp .ge 27, 3) := by decide +kernel
theorem dX11_keep_38 : decode cX11_keep 38 = .ok (.aload_n 0, 1) := by decide +kernel
theorem dX11_keep_39 : decode cX11_keep 39 = .ok (.getfield 16, 3) := by decide +kernel
theorem dX11_keep_42 : decode cX11_keep 42 = .ok (.sipush 1583, 3) := by decide +kernel
theorem dX11_keep_45 : decode cX11_keep 45 = .ok (.iload_n 1, 1) := by decide +kernel
theorem dX11_keep_46 : decode cX11_keep 46 = .ok (.imul, 1) := by decide +kernel
theorem dX11_keep_47 : decode cX11_keep 47 = .ok (.iload_n 3, 1) := by decide +kernel
theorem dX11_keep_48 : decode cX11_keep 48 = .ok (.iadd, 1) := by decide +kernel
theorem dX11_keep_49 : decode cX11_keep 49 = .ok (.aload_n 0, 1) := by decide +kernel
theorem dX11_keep_50 : decode cX11_keep 50 = .ok (.getfield 7, 3) := by decide +kernel
theorem dX11_keep_53 : decode cX11_keep 53 = .ok (.iload_n 3, 1) := by decide +kernel
theorem dX11_keep_54 : decode cX11_keep 54 = .ok (.iaload, 1) := by decide +kernel
theorem dX11_keep_55 : decode cX11_keep 55 = .ok (.iastore, 1) := by decide +kernel
theorem dX11_keep_56 : decode cX11_keep 56 = .ok (.iinc 3 1, 3) := by decide +kernel
theorem dX11_keep_59 : decode cX11_keep 59 = .ok (.goto (-28), 3) := by decide +kernel
theorem dX11_keep_62 : decode cX11_keep 62 = .ok (.iload_n 2, 1) := by decide +kernel
theorem dX11_keep_63 : decode cX11_keep 63 = .ok (.ireturn, 1) := by decide +kernel
theorem dX11_back_0 : decode cX11_back 0 = .ok (.iload_n 1, 1) := by decide +kernel
theorem dX11_back_1 : decode cX11_back 1 = .ok (.i2l, 1) := by decide +kernel
theorem dX11_back_2 : decode cX11_back 2 = .ok (.lconst 0, 1) := by decide +kernel
theorem dX11_back_3 : decode cX11_back 3 = .ok (.lconst 1, 1) := by decide +kernel
theorem dX11_back_4 : decode cX11_back 4 = .ok (.invokestatic 52, 3) := by decide +kernel
theorem dX11_back_7 : decode cX11_back 7 = .ok (.ifCond .ne 5, 3) := by decide +kernel
theorem dX11_back_10 : decode cX11_back 10 = .ok (.iconst (-1), 1) := by decide +kernel
theorem dX11_back_11 : decode cX11_back 11 = .ok (.ireturn, 1) := by decide +kernel
theorem dX11_back_12 : decode cX11_back 12 = .ok (.aload_n 0, 1) := by decide +kernel
theorem dX11_back_13 : decode cX11_back 13 = .ok (.getfield 19, 3) := by decide +kernel
theorem dX11_back_16 : decode cX11_back 16 = .ok (.iload_n 1, 1) := by decide +kernel
theorem dX11_back_17 : decode cX11_back 17 = .ok (.baload, 1) := by decide +kernel
theorem dX11_back_18 : decode cX11_back 18 = .ok (.ifCond .ne 6, 3) := by decide +kernel
theorem dX11_back_21 : decode cX11_back 21 = .ok (.bipush (-2), 2) := by decide +kernel
theorem dX11_back_23 : decode cX11_back 23 = .ok (.ireturn, 1) := by decide +kernel
theorem dX11_back_24 : decode cX11_back 24 = .ok (.iconst 0, 1) := by decide +kernel
theorem dX11_back_25 : decode cX11_back 25 = .ok (.istore_n 2, 1) := by decide +kernel
theorem dX11_back_26 : decode cX11_back 26 = .ok (.iload_n 2, 1) := by decide +kernel
theorem dX11_back_27 : decode cX11_back 27 = .ok (.sipush 1583, 3) := by decide +kernel
theorem dX11_back_30 : decode cX11_back 30 = .ok (.if_icmp .ge 27, 3) := by decide +kernel
theorem dX11_back_33 : decode cX11_back 33 = .ok (.aload_n 0, 1) := by decide +kernel
theorem dX11_back_34 : decode cX11_back 34 = .ok (.getfield 7, 3) := by decide +kernel
theorem dX11_back_37 : decode cX11_back 37 = .ok (.iload_n 2, 1) := by decide +kernel
theorem dX11_back_38 : decode cX11_back 38 = .ok (.aload_n 0, 1) := by decide +kernel
theorem dX11_back_39 : decode cX11_back 39 = .ok (.getfield 16, 3) := by decide +kernel
theorem dX11_back_42 : decode cX11_back 42 = .ok (.sipush 1583, 3) := by decide +kernel
theorem dX11_back_45 : decode cX11_back 45 = .ok (.iload_n 1, 1) := by decide +kernel
theorem dX11_back_46 : decode cX11_back 46 = .ok (.imul, 1) := by decide +kernel
theorem dX11_back_47 : decode cX11_back 47 = .ok (.iload_n 2, 1) := by decide +kernel
theorem dX11_back_48 : decode cX11_back 48 = .ok (.iadd, 1) := by decide +kernel
theorem dX11_back_49 : decode cX11_back 49 = .ok (.iaload, 1) := by decide +kernel
theorem dX11_back_50 : decode cX11_back 50 = .ok (.iastore, 1) := by decide +kernel
theorem dX11_back_51 : decode cX11_back 51 = .ok (.iinc 2 1, 3) := by decide +kernel
theorem dX11_back_54 : decode cX11_back 54 = .ok (.goto (-28), 3) := by decide +kernel
theorem dX11_back_57 : decode cX11_back 57 = .ok (.aload_n 0, 1) := by decide +kernel
theorem dX11_back_58 : decode cX11_back 58 = .ok (.getfield 7, 3) := by decide +kernel
theorem dX11_back_61 : decode cX11_back 61 = .ok (.iconst 4, 1) := by decide +kernel
theorem dX11_back_62 : decode cX11_back 62 = .ok (.iaload, 1) := by decide +kernel
theorem dX11_back_63 : decode cX11_back 63 = .ok (.ireturn, 1) := by decide +kernel
theorem dX11_isSheet_0 : decode cX11_isSheet 0 = .ok (.iload_n 0, 1) := by decide +kernel
theorem dX11_isSheet_1 : decode cX11_isSheet 1 = .ok (.i2l, 1) := by decide +kernel
theorem dX11_isSheet_2 : decode cX11_isSheet 2 = .ok (.lconst 0, 1) := by decide +kernel
theorem dX11_isSheet_3 : decode cX11_isSheet 3 = .ok (.ldc2_w 195, 3) := by decide +kernel
theorem dX11_isSheet_6 : decode cX11_isSheet 6 = .ok (.invokestatic 52, 3) := by decide +kernel
theorem dX11_isSheet_9 : decode cX11_isSheet 9 = .ok (.ifCond .eq 17, 3) := by decide +kernel
theorem dX11_isSheet_12 : decode cX11_isSheet 12 = .ok (.iload_n 1, 1) := by decide +kernel
theorem dX11_isSheet_13 : decode cX11_isSheet 13 = .ok (.i2l, 1) := by decide +kernel
theorem dX11_isSheet_14 : decode cX11_isSheet 14 = .ok (.lconst 0, 1) := by decide +kernel
theorem dX11_isSheet_15 : decode cX11_isSheet 15 = .ok (.lconst 1, 1) := by decide +kernel
theorem dX11_isSheet_16 : decode cX11_isSheet 16 = .ok (.invokestatic 52, 3) := by decide +kernel
theorem dX11_isSheet_19 : decode cX11_isSheet 19 = .ok (.ifCond .eq 7, 3) := by decide +kernel
theorem dX11_isSheet_22 : decode cX11_isSheet 22 = .ok (.iconst 1, 1) := by decide +kernel
theorem dX11_isSheet_23 : decode cX11_isSheet 23 = .ok (.goto 4, 3) := by decide +kernel
theorem dX11_isSheet_26 : decode cX11_isSheet 26 = .ok (.iconst 0, 1) := by decide +kernel
theorem dX11_isSheet_27 : decode cX11_isSheet 27 = .ok (.ireturn, 1) := by decide +kernel
theorem dX11_sheet_0 : decode cX11_sheet 0 = .ok (.iload_n 1, 1) := by decide +kernel
theorem dX11_sheet_1 : decode cX11_sheet 1 = .ok (.iload_n 2, 1) := by decide +kernel
theorem dX11_sheet_2 : decode cX11_sheet 2 = .ok (.invokestatic 298, 3) := by decide +kernel
theorem dX11_sheet_5 : decode cX11_sheet 5 = .ok (.ifCond .eq 9, 3) := by decide +kernel
theorem dX11_sheet_8 : decode cX11_sheet 8 = .ok (.iload_n 3, 1) := by decide +kernel
theorem dX11_sheet_9 : decode cX11_sheet 9 = .ok (.bipush 40, 2) := by decide +kernel
theorem dX11_sheet_11 : decode cX11_sheet 11 = .ok (.if_icmp .le 5, 3) := by decide +kernel
theorem dX11_sheet_14 : decode cX11_sheet 14 = .ok (.iconst (-1), 1) := by decide +kernel
theorem dX11_sheet_15 : decode cX11_sheet 15 = .ok (.ireturn, 1) := by decide +kernel
theorem dX11_sheet_16 : decode cX11_sheet 16 = .ok (.iload_n 3, 1) := by decide +kernel
theorem dX11_sheet_17 : decode cX11_sheet 17 = .ok (.ifCond .ge 6, 3) := by decide +kernel
theorem dX11_sheet_20 : decode cX11_sheet 20 = .ok (.bipush (-14), 2) := by decide +kernel
theorem dX11_sheet_22 : decode cX11_sheet 22 = .ok (.ireturn, 1) := by decide +kernel
theorem dX11_sheet_23 : decode cX11_sheet 23 = .ok (.aload_n 0, 1) := by decide +kernel
theorem dX11_sheet_24 : decode cX11_sheet 24 = .ok (.getfield 38, 3) := by decide +kernel
theorem dX11_sheet_27 : decode cX11_sheet 27 = .ok (.iload_n 1, 1) := by decide +kernel
theorem dX11_sheet_28 : decode cX11_sheet 28 = .ok (.iload_n 2, 1) := by decide +kernel
theorem dX11_sheet_29 : decode cX11_sheet 29 = .ok (.iastore, 1) := by decide +kernel
theorem dX11_sheet_30 : decode cX11_sheet 30 = .ok (.aload_n 0, 1) := by decide +kernel
theorem dX11_sheet_31 : decode cX11_sheet 31 = .ok (.getfield 41, 3) := by decide +kernel
theorem dX11_sheet_34 : decode cX11_sheet 34 = .ok (.iload_n 1, 1) := by decide +kernel
theorem dX11_sheet_35 : decode cX11_sheet 35 = .ok (.iload_n 3, 1) := by decide +kernel
theorem dX11_sheet_36 : decode cX11_sheet 36 = .ok (.iastore, 1) := by decide +kernel
theorem dX11_sheet_37 : decode cX11_sheet 37 = .ok (.iconst 0, 1) := by decide +kernel
theorem dX11_sheet_38 : decode cX11_sheet 38 = .ok (.istore 4, 2) := by decide +kernel
theorem dX11_sheet_40 : decode cX11_sheet 40 = .ok (.iload 4, 2) := by decide +kernel
theorem dX11_sheet_42 : decode cX11_sheet 42 = .ok (.bipush 40, 2) := by decide +kernel
theorem dX11_sheet_44 : decode cX11_sheet 44 = .ok (.if_icmp .ge 22, 3) := by decide +kernel
theorem dX11_sheet_47 : decode cX11_sheet 47 = .ok (.aload_n 0, 1) := by decide +kernel
theorem dX11_sheet_48 : decode cX11_sheet 48 = .ok (.getfield 44, 3) := by decide +kernel
theorem dX11_sheet_51 : decode cX11_sheet 51 = .ok (.bipush 40, 2) := by decide +kernel
theorem dX11_sheet_53 : decode cX11_sheet 53 = .ok (.iload_n 1, 1) := by decide +kernel
theorem dX11_sheet_54 : decode cX11_sheet 54 = .ok (.imul, 1) := by decide +kernel
theorem dX11_sheet_55 : decode cX11_sheet 55 = .ok (.iload 4, 2) := by decide +kernel
theorem dX11_sheet_57 : decode cX11_sheet 57 = .ok (.iadd, 1) := by decide +kernel
theorem dX11_sheet_58 : decode cX11_sheet 58 = .ok (.iconst 0, 1) := by decide +kernel
theorem dX11_sheet_59 : decode cX11_sheet 59 = .ok (.iastore, 1) := by decide +kernel
theorem dX11_sheet_60 : decode cX11_sheet 60 = .ok (.iinc 4 1, 3) := by decide +kernel
theorem dX11_sheet_63 : decode cX11_sheet 63 = .ok (.goto (-23), 3) := by decide +kernel
theorem dX11_sheet_66 : decode cX11_sheet 66 = .ok (.iconst 1, 1) := by decide +kernel
theorem dX11_sheet_67 : decode cX11_sheet 67 = .ok (.ireturn, 1) := by decide +kernel
theorem dX11_lay_0 : decode cX11_lay 0 = .ok (.iload_n 1, 1) := by decide +kernel
theorem dX11_lay_1 : decode cX11_lay 1 = .ok (.iconst 0, 1) := by decide +kernel
theorem dX11_lay_2 : decode cX11_lay 2 = .ok (.invokestatic 298, 3) := by decide +kernel
theorem dX11_lay_5 : decode cX11_lay 5 = .ok (.ifCond .ne 5, 3) := by decide +kernel
theorem dX11_lay_8 : decode cX11_lay 8 = .ok (.iconst (-1), 1) := by decide +kernel
theorem dX11_lay_9 : decode cX11_lay 9 = .ok (.ireturn, 1) := by decide +kernel
theorem dX11_lay_10 : decode cX11_lay 10 = .ok (.aload_n 0, 1) := by decide +kernel
theorem dX11_lay_11 : decode cX11_lay 11 = .ok (.getfield 38, 3) := by decide +kernel
theorem dX11_lay_14 : decode cX11_lay 14 = .ok (.iload_n 1, 1) := by decide +kernel
theorem dX11_lay_15 : decode cX11_lay 15 = .ok (.iaload, 1) := by decide +kernel
theorem dX11_lay_16 : decode cX11_lay 16 = .ok (.bipush (-4), 2) := by decide +kernel
theorem dX11_lay_18 : decode cX11_lay 18 = .ok (.if_icmp .ne 6, 3) := by decide +kernel
theorem dX11_lay_21 : decode cX11_lay 21 = .ok (.bipush (-11), 2) := by decide +kernel
theorem dX11_lay_23 : decode cX11_lay 23 = .ok (.ireturn, 1) := by decide +kernel
theorem dX11_lay_24 : decode cX11_lay 24 = .ok (.iload_n 2, 1) := by decide +kernel
theorem dX11_lay_25 : decode cX11_lay 25 = .ok (.i2l, 1) := by decide +kernel
theorem dX11_lay_26 : decode cX11_lay 26 = .ok (.lconst 0, 1) := by decide +kernel
theorem dX11_lay_27 : decode cX11_lay 27 = .ok (.aload_n 0, 1) := by decide +kernel
theorem dX11_lay_28 : decode cX11_lay 28 = .ok (.getfield 41, 3) := by decide +kernel
theorem dX11_lay_31 : decode cX11_lay 31 = .ok (.iload_n 1, 1) := by decide +kernel
theorem dX11_lay_32 : decode cX11_lay 32 = .ok (.iaload, 1) := by decide +kernel
theorem dX11_lay_33 : decode cX11_lay 33 = .ok (.iconst 1, 1) := by decide +kernel
theorem dX11_lay_34 : decode cX11_lay 34 = .ok (.isub, 1) := by decide +kernel
theorem dX11_lay_35 : decode cX11_lay 35 = .ok (.i2l, 1) := by decide +kernel
theorem dX11_lay_36 : decode cX11_lay 36 = .ok (.invokestatic 52, 3) := by decide +kernel
theorem dX11_lay_39 : decode cX11_lay 39 = .ok (.ifCond .ne 6, 3) := by decide +kernel
theorem dX11_lay_42 : decode cX11_lay 42 = .ok (.bipush (-13), 2) := by decide +kernel
theorem dX11_lay_44 : decode cX11_lay 44 = .ok (.ireturn, 1) := by decide +kernel
theorem dX11_lay_45 : decode cX11_lay 45 = .ok (.aload_n 0, 1) := by decide +kernel
theorem dX11_lay_46 : decode cX11_lay 46 = .ok (.getfield 44, 3) := by decide +kernel
theorem dX11_lay_49 : decode cX11_lay 49 = .ok (.bipush 40, 2) := by decide +kernel
theorem dX11_lay_51 : decode cX11_lay 51 = .ok (.iload_n 1, 1) := by decide +kernel
theorem dX11_lay_52 : decode cX11_lay 52 = .ok (.imul, 1) := by decide +kernel
theorem dX11_lay_53 : decode cX11_lay 53 = .ok (.iload_n 2, 1) := by decide +kernel
theorem dX11_lay_54 : decode cX11_lay 54 = .ok (.iadd, 1) := by decide +kernel
theorem dX11_lay_55 : decode cX11_lay 55 = .ok (.aload_n 0, 1) := by decide +kernel
theorem dX11_lay_56 : decode cX11_lay 56 = .ok (.getfield 38, 3) := by decide +kernel
theorem dX11_lay_59 : decode cX11_lay 59 = .ok (.iload_n 1, 1) := by decide +kernel
theorem dX11_lay_60 : decode cX11_lay 60 = .ok (.iaload, 1) := by decide +kernel
theorem dX11_lay_61 : decode cX11_lay 61 = .ok (.ifCond .ne 8, 3) := by decide +kernel
theorem dX11_lay_64 : decode cX11_lay 64 = .ok (.iload_n 3, 1) := by decide +kernel
theorem dX11_lay_65 : decode cX11_lay 65 = .ok (.i2b, 1) := by decide +kernel
theorem dX11_lay_66 : decode cX11_lay 66 = .ok (.goto 4, 3) := by decide +kernel
theorem dX11_lay_69 : decode cX11_lay 69 = .ok (.iload_n 3, 1) := by decide +kernel
theorem dX11_lay_70 : decode cX11_lay 70 = .ok (.iastore, 1) := by decide +kernel
theorem dX11_lay_71 : decode cX11_lay 71 = .ok (.iconst 1, 1) := by decide +kernel
theorem dX11_lay_72 : decode cX11_lay 72 = .ok (.ireturn, 1) := by decide +kernel
theorem dX11_post_0 : decode cX11_post 0 = .ok (.iload_n 1, 1) := by decide +kernel
theorem dX11_post_1 : decode cX11_post 1 = .ok (.iload_n 2, 1) := by decide +kernel
theorem dX11_post_2 : decode cX11_post 2 = .ok (.invokestatic 298, 3) := by decide +kernel
theorem dX11_post_5 : decode cX11_post 5 = .ok (.ifCond .eq 16, 3) := by decide +kernel
theorem dX11_post_8 : decode cX11_post 8 = .ok (.iload 4, 2) := by decide +kernel
theorem dX11_post_10 : decode cX11_post 10 = .ok (.i2l, 1) := by decide +kernel
theorem dX11_post_11 : decode cX11_post 11 = .ok (.lconst 0, 1) := by decide +kernel
theorem dX11_post_12 : decode cX11_post 12 = .ok (.ldc2_w 276, 3) := by decide +kernel
theorem dX11_post_15 : decode cX11_post 15 = .ok (.invokestatic 52, 3) := by decide +kernel
theorem dX11_post_18 : decode cX11_post 18 = .ok (.ifCond .ne 5, 3) := by decide +kernel
theorem dX11_post_21 : decode cX11_post 21 = .ok (.iconst (-1), 1) := by decide +kernel
theorem dX11_post_22 : decode cX11_post 22 = .ok (.ireturn, 1) := by decide +kernel
theorem dX11_post_23 : decode cX11_post 23 = .ok (.aload_n 0, 1) := by decide +kernel
theorem dX11_post_24 : decode cX11_post 24 = .ok (.getfield 38, 3) := by decide +kernel
theorem dX11_post_27 : decode cX11_post 27 = .ok (.iload_n 1, 1) := by decide +kernel
theorem dX11_post_28 : decode cX11_post 28 = .ok (.iaload, 1) := by decide +kernel
theorem dX11_post_29 : decode cX11_post 29 = .ok (.bipush (-4), 2) := by decide +kernel
theorem dX11_post_31 : decode cX11_post 31 = .ok (.if_icmp .ne 6, 3) := by decide +kernel
theorem dX11_post_34 : decode cX11_post 34 = .ok (.bipush (-11), 2) := by decide +kernel
theorem dX11_post_36 : decode cX11_post 36 = .ok (.ireturn, 1) := by decide +kernel
theorem dX11_post_37 : decode cX11_post 37 = .ok (.aload_n 0, 1) := by decide +kernel
theorem dX11_post_38 : decode cX11_post 38 = .ok (.getfield 38, 3) := by decide +kernel
theorem dX11_post_41 : decode cX11_post 41 = .ok (.iload_n 1, 1) := by decide +kernel
theorem dX11_post_42 : decode cX11_post 42 = .ok (.iaload, 1) := by decide +kernel
theorem dX11_post_43 : decode cX11_post 43 = .ok (.iload_n 2, 1) := by decide +kernel
theorem dX11_post_44 : decode cX11_post 44 = .ok (.if_icmp .eq 6, 3) := by decide +kernel
theorem dX11_post_47 : decode cX11_post 47 = .ok (.bipush (-12), 2) := by decide +kernel
theorem dX11_post_49 : decode cX11_post 49 = .ok (.ireturn, 1) := by decide +kernel
theorem dX11_post_50 : decode cX11_post 50 = .ok (.iload_n 3, 1) := by decide +kernel
theorem dX11_post_51 : decode cX11_post 51 = .ok (.ifCond .lt 22, 3) := by decide +kernel
theorem dX11_post_54 : decode cX11_post 54 = .ok (.iload_n 3, 1) := by decide +kernel
theorem dX11_post_55 : decode cX11_post 55 = .ok (.i2l, 1) := by decide +kernel
theorem dX11_post_56 : decode cX11_post 56 = .ok (.iconst 3, 1) := by decide +kernel
theorem dX11_post_57 : decode cX11_post 57 = .ok (.iload 4, 2) := by decide +kernel
theorem dX11_post_59 : decode cX11_post 59 = .ok (.imul, 1) := by decide +kernel
theorem dX11_post_60 : decode cX11_post 60 = .ok (.i2l, 1) := by decide +kernel
theorem dX11_post_61 : decode cX11_post 61 = .ok (.ladd, 1) := by decide +kernel
theorem dX11_post_62 : decode cX11_post 62 = .ok (.aload_n 0, 1) := by decide +kernel
theorem dX11_post_63 : decode cX11_post 63 = .ok (.getfield 41, 3) := by decide +kernel
theorem dX11_post_66 : decode cX11_post 66 = .ok (.iload_n 1, 1) := by decide +kernel
theorem dX11_post_67 : decode cX11_post 67 = .ok (.iaload, 1) := by decide +kernel
theorem dX11_post_68 : decode cX11_post 68 = .ok (.i2l, 1) := by decide +kernel
theorem dX11_post_69 : decode cX11_post 69 = .ok (.lcmp, 1) := by decide +kernel
theorem dX11_post_70 : decode cX11_post 70 = .ok (.ifCond .le 6, 3) := by decide +kernel
theorem dX11_post_73 : decode cX11_post 73 = .ok (.bipush (-13), 2) := by decide +kernel
theorem dX11_post_75 : decode cX11_post 75 = .ok (.ireturn, 1) := by decide +kernel
theorem dX11_post_76 : decode cX11_post 76 = .ok (.iconst 0, 1) := by decide +kernel
theorem dX11_post_77 : decode cX11_post 77 = .ok (.istore 5, 2) := by decide +kernel
theorem dX11_post_79 : decode cX11_post 79 = .ok (.iload 5, 2) := by decide +kernel
theorem dX11_post_81 : decode cX11_post 81 = .ok (.sipush 1583, 3) := by decide +kernel
theorem dX11_post_84 : decode cX11_post 84 = .ok (.if_icmp .ge 23, 3) := by decide +kernel
theorem dX11_post_87 : decode cX11_post 87 = .ok (.aload_n 0, 1) := by decide +kernel
theorem dX11_post_88 : decode cX11_post 88 = .ok (.getfield 23, 3) := by decide +kernel
theorem dX11_post_91 : decode cX11_post 91 = .ok (.iload 5, 2) := by decide +kernel
theorem dX11_post_93 : decode cX11_post 93 = .ok (.aload_n 0, 1) := by decide +kernel
theorem dX11_post_94 : decode cX11_post 94 = .ok (.getfield 7, 3) := by decide +kernel
theorem dX11_post_97 : decode cX11_post 97 = .ok (.iload 5, 2) := by decide +kernel
theorem dX11_post_99 : decode cX11_post 99 = .ok (.iaload, 1) := by decide +kernel
theorem dX11_post_100 : decode cX11_post 100 = .ok (.iastore, 1) := by decide +kernel
theorem dX11_post_101 : decode cX11_post 101 = .ok (.iinc 5 1, 3) := by decide +kernel
theorem dX11_post_104 : decode cX11_post 104 = .ok (.goto (-25), 3) := by decide +kernel
theorem dX11_post_107 : decode cX11_post 107 = .ok (.iconst 0, 1) := by decide +kernel
theorem dX11_post_108 : decode cX11_post 108 = .ok (.istore 5, 2) := by decide +kernel
theorem dX11_post_110 : decode cX11_post 110 = .ok (.iload 5, 2) := by decide +kernel
theorem dX11_post_112 : decode cX11_post 112 = .ok (.iload 4, 2) := by decide +kernel
theorem dX11_post_114 : decode cX11_post 114 = .ok (.if_icmp .ge 91, 3) := by decide +kernel
theorem dX11_post_117 : decode cX11_post 117 = .ok (.bipush 40, 2) := by decide +kernel
theorem dX11_post_119 : decode cX11_post 119 = .ok (.iload_n 1, 1) := by decide +kernel
theorem dX11_post_120 : decode cX11_post 120 = .ok (.imul, 1) := by decide +kernel
theorem dX11_post_121 : decode cX11_post 121 = .ok (.iload_n 3, 1) := by decide +kernel
theorem dX11_post_122 : decode cX11_post 122 = .ok (.iadd, 1) := by decide +kernel
theorem dX11_post_123 : decode cX11_post 123 = .ok (.iconst 3, 1) := by decide +kernel
theorem dX11_post_124 : decode cX11_post 124 = .ok (.iload 5, 2) := by decide +kernel
theorem dX11_post_126 : decode cX11_post 126 = .ok (.imul, 1) := by decide +kernel
theorem dX11_post_127 : decode cX11_post 127 = .ok (.iadd, 1) := by decide +kernel
theorem dX11_post_128 : decode cX11_post 128 = .ok (.istore 6, 2) := by decide +kernel
theorem dX11_post_130 : decode cX11_post 130 = .ok (.aload_n 0, 1) := by decide +kernel
theorem dX11_post_131 : decode cX11_post 131 = .ok (.aload_n 0, 1) := by decide +kernel
theorem dX11_post_132 : decode cX11_post 132 = .ok (.getfield 44, 3) := by decide +kernel
theorem dX11_post_135 : decode cX11_post 135 = .ok (.iload 6, 2) := by decide +kernel
theorem dX11_post_137 : decode cX11_post 137 = .ok (.iaload, 1) := by decide +kernel
theorem dX11_post_138 : decode cX11_post 138 = .ok (.aload_n 0, 1) := by decide +kernel
theorem dX11_post_139 : decode cX11_post 139 = .ok (.getfield 44, 3) := by decide +kernel
theorem dX11_post_142 : decode cX11_post 142 = .ok (.iload 6, 2) := by decide +kernel
theorem dX11_post_144 : decode cX11_post 144 = .ok (.iconst 1, 1) := by decide +kernel
theorem dX11_post_145 : decode cX11_post 145 = .ok (.iadd, 1) := by decide +kernel
theorem dX11_post_146 : decode cX11_post 146 = .ok (.iaload, 1) := by decide +kernel
theorem dX11_post_147 : decode cX11_post 147 = .ok (.aload_n 0, 1) := by decide +kernel
theorem dX11_post_148 : decode cX11_post 148 = .ok (.getfield 44, 3) := by decide +kernel
theorem dX11_post_151 : decode cX11_post 151 = .ok (.iload 6, 2) := by decide +kernel
theorem dX11_post_153 : decode cX11_post 153 = .ok (.iconst 2, 1) := by decide +kernel
theorem dX11_post_154 : decode cX11_post 154 = .ok (.iadd, 1) := by decide +kernel
theorem dX11_post_155 : decode cX11_post 155 = .ok (.iaload, 1) := by decide +kernel
theorem dX11_post_156 : decode cX11_post 156 = .ok (.invokevirtual 295, 3) := by decide +kernel
theorem dX11_post_159 : decode cX11_post 159 = .ok (.ifCond .ge 40, 3) := by decide +kernel
theorem dX11_post_162 : decode cX11_post 162 = .ok (.iconst 0, 1) := by decide +kernel
theorem dX11_post_163 : decode cX11_post 163 = .ok (.istore 7, 2) := by decide +kernel
theorem dX11_post_165 : decode cX11_post 165 = .ok (.iload 7, 2) := by decide +kernel
theorem dX11_post_167 : decode cX11_post 167 = .ok (.sipush 1583, 3) := by decide +kernel
theorem dX11_post_170 : decode cX11_post 170 = .ok (.if_icmp .ge 23, 3) := by decide +kernel
theorem dX11_post_173 : decode cX11_post 173 = .ok (.aload_n 0, 1) := by decide +kernel
theorem dX11_post_174 : decode cX11_post 174 = .ok (.getfield 7, 3) := by decide +kernel
theorem dX11_post_177 : decode cX11_post 177 = .ok (.iload 7, 2) := by decide +kernel
theorem dX11_post_179 : decode cX11_post 179 = .ok (.aload_n 0, 1) := by decide +kernel
theorem dX11_post_180 : decode cX11_post 180 = .ok (.getfield 23, 3) := by decide +kernel
theorem dX11_post_183 : decode cX11_post 183 = .ok (.iload 7, 2) := by decide +kernel
theorem dX11_post_185 : decode cX11_post 185 = .ok (.iaload, 1) := by decide +kernel
theorem dX11_post_186 : decode cX11_post 186 = .ok (.iastore, 1) := by decide +kernel
theorem dX11_post_187 : decode cX11_post 187 = .ok (.iinc 7 1, 3) := by decide +kernel
theorem dX11_post_190 : decode cX11_post 190 = .ok (.goto (-25), 3) := by decide +kernel
theorem dX11_post_193 : decode cX11_post 193 = .ok (.bipush (-20), 2) := by decide +kernel
theorem dX11_post_195 : decode cX11_post 195 = .ok (.iload 5, 2) := by decide +kernel
theorem dX11_post_197 : decode cX11_post 197 = .ok (.isub, 1) := by decide +kernel
theorem dX11_post_198 : decode cX11_post 198 = .ok (.ireturn, 1) := by decide +kernel
theorem dX11_post_199 : decode cX11_post 199 = .ok (.iinc 5 1, 3) := by decide +kernel
theorem dX11_post_202 : decode cX11_post 202 = .ok (.goto (-92), 3) := by decide +kernel
theorem dX11_post_205 : decode cX11_post 205 = .ok (.iload 4, 2) := by decide +kernel
theorem dX11_post_207 : decode cX11_post 207 = .ok (.ireturn, 1) := by decide +kernel
theorem dX11_count_0 : decode cX11_count 0 = .ok (.iload_n 1, 1) := by decide +kernel
theorem dX11_count_1 : decode cX11_count 1 = .ok (.tableswitch 75 0 2 #[27, 47, 52], 27) := by decide +kernel
theorem dX11_count_28 : decode cX11_count 28 = .ok (.aload_n 0, 1) := by decide +kernel
theorem dX11_count_29 : decode cX11_count 29 = .ok (.getfield 19, 3) := by decide +kernel
theorem dX11_count_32 : decode cX11_count 32 = .ok (.iconst 0, 1) := by decide +kernel
theorem dX11_count_33 : decode cX11_count 33 = .ok (.baload, 1) := by decide +kernel
theorem dX11_count_34 : decode cX11_count 34 = .ok (.invokestatic 104, 3) := by decide +kernel
theorem dX11_count_37 : decode cX11_count 37 = .ok (.aload_n 0, 1) := by decide +kernel
theorem dX11_count_38 : decode cX11_count 38 = .ok (.getfield 19, 3) := by decide +kernel
theorem dX11_count_41 : decode cX11_count 41 = .ok (.iconst 1, 1) := by decide +kernel
theorem dX11_count_42 : decode cX11_count 42 = .ok (.baload, 1) := by decide +kernel
theorem dX11_count_43 : decode cX11_count 43 = .ok (.invokestatic 104, 3) := by decide +kernel
theorem dX11_count_46 : decode cX11_count 46 = .ok (.iadd, 1) := by decide +kernel
theorem dX11_count_47 : decode cX11_count 47 = .ok (.ireturn, 1) := by decide +kernel
theorem dX11_count_48 : decode cX11_count 48 = .ok (.aload_n 0, 1) := by decide +kernel
theorem dX11_count_49 : decode cX11_count 49 = .ok (.getfield 56, 3) := by decide +kernel
theorem dX11_count_52 : decode cX11_count 52 = .ok (.ireturn, 1) := by decide +kernel
theorem dX11_count_53 : decode cX11_count 53 = .ok (.aload_n 0, 1) := by decide +kernel
theorem dX11_count_54 : decode cX11_count 54 = .ok (.getfield 38, 3) := by decide +kernel
theorem dX11_count_57 : decode cX11_count 57 = .ok (.iconst 0, 1) := by decide +kernel
theorem dX11_count_58 : decode cX11_count 58 = .ok (.iaload, 1) := by decide +kernel
theorem dX11_count_59 : decode cX11_count 59 = .ok (.bipush (-4), 2) := by decide +kernel
theorem dX11_count_61 : decode cX11_count 61 = .ok (.if_icmp .ne 8, 3) := by decide +kernel
theorem dX11_count_64 : decode cX11_count 64 = .ok (.bipush (-4), 2) := by decide +kernel
theorem dX11_count_66 : decode cX11_count 66 = .ok (.goto 9, 3) := by decide +kernel
theorem dX11_count_69 : decode cX11_count 69 = .ok (.aload_n 0, 1) := by decide +kernel
theorem dX11_count_70 : decode cX11_count 70 = .ok (.getfield 41, 3) := by decide +kernel
theorem dX11_count_73 : decode cX11_count 73 = .ok (.iconst 0, 1) := by decide +kernel
theorem dX11_count_74 : decode cX11_count 74 = .ok (.iaload, 1) := by decide +kernel
theorem dX11_count_75 : decode cX11_count 75 = .ok (.ireturn, 1) := by decide +kernel
theorem dX11_count_76 : decode cX11_count 76 = .ok (.iconst (-1), 1) := by decide +kernel
theorem dX11_count_77 : decode cX11_count 77 = .ok (.ireturn, 1) := by decide +kernel
