theorem dX9_paint_170 : decode cX9_paint 170 = .ok (.aload_n 0, 1) := by decide +kernel
theorem dX9_paint_171 : decode cX9_paint 171 = .ok (.getfield 73, 3) := by decide +kernel
theorem dX9_paint_174 : decode cX9_paint 174 = .ok (.iload_n 1, 1) := by decide +kernel
theorem dX9_paint_175 : decode cX9_paint 175 = .ok (.aaload, 1) := by decide +kernel
theorem dX9_paint_176 : decode cX9_paint 176 = .ok (.iload_n 2, 1) := by decide +kernel
theorem dX9_paint_177 : decode cX9_paint 177 = .ok (.iload_n 3, 1) := by decide +kernel
theorem dX9_paint_178 : decode cX9_paint 178 = .ok (.iastore, 1) := by decide +kernel
theorem dX9_paint_179 : decode cX9_paint 179 = .ok (.aload_n 0, 1) := by decide +kernel
theorem dX9_paint_180 : decode cX9_paint 180 = .ok (.dup, 1) := by decide +kernel
theorem dX9_paint_181 : decode cX9_paint 181 = .ok (.getfield 179, 3) := by decide +kernel
theorem dX9_paint_184 : decode cX9_paint 184 = .ok (.iconst 1, 1) := by decide +kernel
theorem dX9_paint_185 : decode cX9_paint 185 = .ok (.iadd, 1) := by decide +kernel
theorem dX9_paint_186 : decode cX9_paint 186 = .ok (.putfield 179, 3) := by decide +kernel
theorem dX9_paint_189 : decode cX9_paint 189 = .ok (.aload_n 0, 1) := by decide +kernel
theorem dX9_paint_190 : decode cX9_paint 190 = .ok (.iload_n 1, 1) := by decide +kernel
theorem dX9_paint_191 : decode cX9_paint 191 = .ok (.invokevirtual 182, 3) := by decide +kernel
theorem dX9_paint_194 : decode cX9_paint 194 = .ok (.ifCond .eq 42, 3) := by decide +kernel
theorem dX9_paint_197 : decode cX9_paint 197 = .ok (.aload_n 0, 1) := by decide +kernel
theorem dX9_paint_198 : decode cX9_paint 198 = .ok (.getfield 53, 3) := by decide +kernel
theorem dX9_paint_201 : decode cX9_paint 201 = .ok (.iload_n 1, 1) := by decide +kernel
theorem dX9_paint_202 : decode cX9_paint 202 = .ok (.aload_n 0, 1) := by decide +kernel
theorem dX9_paint_203 : decode cX9_paint 203 = .ok (.getfield 128, 3) := by decide +kernel
theorem dX9_paint_206 : decode cX9_paint 206 = .ok (.iastore, 1) := by decide +kernel
theorem dX9_paint_207 : decode cX9_paint 207 = .ok (.aload_n 0, 1) := by decide +kernel
theorem dX9_paint_208 : decode cX9_paint 208 = .ok (.getfield 41, 3) := by decide +kernel
theorem dX9_paint_211 : decode cX9_paint 211 = .ok (.aload_n 0, 1) := by decide +kernel
theorem dX9_paint_212 : decode cX9_paint 212 = .ok (.getfield 44, 3) := by decide +kernel
theorem dX9_paint_215 : decode cX9_paint 215 = .ok (.iload_n 1, 1) := by decide +kernel
theorem dX9_paint_216 : decode cX9_paint 216 = .ok (.iaload, 1) := by decide +kernel
theorem dX9_paint_217 : decode cX9_paint 217 = .ok (.dup2, 1) := by decide +kernel
theorem dX9_paint_218 : decode cX9_paint 218 = .ok (.iaload, 1) := by decide +kernel
theorem dX9_paint_219 : decode cX9_paint 219 = .ok (.aload_n 0, 1) := by decide +kernel
theorem dX9_paint_220 : decode cX9_paint 220 = .ok (.getfield 47, 3) := by decide +kernel
theorem dX9_paint_223 : decode cX9_paint 223 = .ok (.iload_n 1, 1) := by decide +kernel
theorem dX9_paint_224 : decode cX9_paint 224 = .ok (.iaload, 1) := by decide +kernel
theorem dX9_paint_225 : decode cX9_paint 225 = .ok (.aload_n 0, 1) := by decide +kernel
theorem dX9_paint_226 : decode cX9_paint 226 = .ok (.getfield 47, 3) := by decide +kernel
theorem dX9_paint_229 : decode cX9_paint 229 = .ok (.iload_n 1, 1) := by decide +kernel
theorem dX9_paint_230 : decode cX9_paint 230 = .ok (.iaload, 1) := by decide +kernel
theorem dX9_paint_231 : decode cX9_paint 231 = .ok (.iconst 2, 1) := by decide +kernel
theorem dX9_paint_232 : decode cX9_paint 232 = .ok (.idiv, 1) := by decide +kernel
theorem dX9_paint_233 : decode cX9_paint 233 = .ok (.isub, 1) := by decide +kernel
theorem dX9_paint_234 : decode cX9_paint 234 = .ok (.iadd, 1) := by decide +kernel
theorem dX9_paint_235 : decode cX9_paint 235 = .ok (.iastore, 1) := by decide +kernel
theorem dX9_paint_236 : decode cX9_paint 236 = .ok (.iconst 0, 1) := by decide +kernel
theorem dX9_paint_237 : decode cX9_paint 237 = .ok (.ireturn, 1) := by decide +kernel
theorem dX9_pay_0 : decode cX9_pay 0 = .ok (.aload_n 0, 1) := by decide +kernel
theorem dX9_pay_1 : decode cX9_pay 1 = .ok (.iload_n 1, 1) := by decide +kernel
theorem dX9_pay_2 : decode cX9_pay 2 = .ok (.invokevirtual 123, 3) := by decide +kernel
theorem dX9_pay_5 : decode cX9_pay 5 = .ok (.ifCond .eq 17, 3) := by decide +kernel
theorem dX9_pay_8 : decode cX9_pay 8 = .ok (.iload_n 2, 1) := by decide +kernel
theorem dX9_pay_9 : decode cX9_pay 9 = .ok (.iconst 1, 1) := by decide +kernel
theorem dX9_pay_10 : decode cX9_pay 10 = .ok (.aload_n 0, 1) := by decide +kernel
theorem dX9_pay_11 : decode cX9_pay 11 = .ok (.getfield 41, 3) := by decide +kernel
theorem dX9_pay_14 : decode cX9_pay 14 = .ok (.iload_n 1, 1) := by decide +kernel
theorem dX9_pay_15 : decode cX9_pay 15 = .ok (.iaload, 1) := by decide +kernel
theorem dX9_pay_16 : decode cX9_pay 16 = .ok (.invokestatic 113, 3) := by decide +kernel
theorem dX9_pay_19 : decode cX9_pay 19 = .ok (.ifCond .ne 5, 3) := by decide +kernel
theorem dX9_pay_22 : decode cX9_pay 22 = .ok (.iconst (-1), 1) := by decide +kernel
theorem dX9_pay_23 : decode cX9_pay 23 = .ok (.ireturn, 1) := by decide +kernel
theorem dX9_pay_24 : decode cX9_pay 24 = .ok (.aload_n 0, 1) := by decide +kernel
theorem dX9_pay_25 : decode cX9_pay 25 = .ok (.getfield 41, 3) := by decide +kernel
theorem dX9_pay_28 : decode cX9_pay 28 = .ok (.iload_n 1, 1) := by decide +kernel
theorem dX9_pay_29 : decode cX9_pay 29 = .ok (.dup2, 1) := by decide +kernel
theorem dX9_pay_30 : decode cX9_pay 30 = .ok (.iaload, 1) := by decide +kernel
theorem dX9_pay_31 : decode cX9_pay 31 = .ok (.iload_n 2, 1) := by decide +kernel
theorem dX9_pay_32 : decode cX9_pay 32 = .ok (.isub, 1) := by decide +kernel
theorem dX9_pay_33 : decode cX9_pay 33 = .ok (.iastore, 1) := by decide +kernel
theorem dX9_pay_34 : decode cX9_pay 34 = .ok (.aload_n 0, 1) := by decide +kernel
theorem dX9_pay_35 : decode cX9_pay 35 = .ok (.dup, 1) := by decide +kernel
theorem dX9_pay_36 : decode cX9_pay 36 = .ok (.getfield 185, 3) := by decide +kernel
theorem dX9_pay_39 : decode cX9_pay 39 = .ok (.iload_n 2, 1) := by decide +kernel
theorem dX9_pay_40 : decode cX9_pay 40 = .ok (.iadd, 1) := by decide +kernel
theorem dX9_pay_41 : decode cX9_pay 41 = .ok (.putfield 185, 3) := by decide +kernel
theorem dX9_pay_44 : decode cX9_pay 44 = .ok (.aload_n 0, 1) := by decide +kernel
theorem dX9_pay_45 : decode cX9_pay 45 = .ok (.getfield 41, 3) := by decide +kernel
theorem dX9_pay_48 : decode cX9_pay 48 = .ok (.iload_n 1, 1) := by decide +kernel
theorem dX9_pay_49 : decode cX9_pay 49 = .ok (.iaload, 1) := by decide +kernel
theorem dX9_pay_50 : decode cX9_pay 50 = .ok (.ireturn, 1) := by decide +kernel
theorem dX9_tries_0 : decode cX9_tries 0 = .ok (.iload_n 1, 1) := by decide +kernel
theorem dX9_tries_1 : decode cX9_tries 1 = .ok (.aload_n 0, 1) := by decide +kernel
theorem dX9_tries_2 : decode cX9_tries 2 = .ok (.getfield 188, 3) := by decide +kernel
theorem dX9_tries_5 : decode cX9_tries 5 = .ok (.if_icmp .ne 49, 3) := by decide +kernel
theorem dX9_tries_8 : decode cX9_tries 8 = .ok (.iload 4, 2) := by decide +kernel
theorem dX9_tries_10 : decode cX9_tries 10 = .ok (.aload_n 0, 1) := by decide +kernel
theorem dX9_tries_11 : decode cX9_tries 11 = .ok (.getfield 191, 3) := by decide +kernel
theorem dX9_tries_14 : decode cX9_tries 14 = .ok (.if_icmp .gt 4, 3) := by decide +kernel
theorem dX9_tries_17 : decode cX9_tries 17 = .ok (.return_, 1) := by decide +kernel
theorem dX9_tries_18 : decode cX9_tries 18 = .ok (.aload_n 0, 1) := by decide +kernel
theorem dX9_tries_19 : decode cX9_tries 19 = .ok (.iload 4, 2) := by decide +kernel
theorem dX9_tries_21 : decode cX9_tries 21 = .ok (.putfield 191, 3) := by decide +kernel
theorem dX9_tries_24 : decode cX9_tries 24 = .ok (.iconst 0, 1) := by decide +kernel
theorem dX9_tries_25 : decode cX9_tries 25 = .ok (.istore 5, 2) := by decide +kernel
theorem dX9_tries_27 : decode cX9_tries 27 = .ok (.iload 5, 2) := by decide +kernel
theorem dX9_tries_29 : decode cX9_tries 29 = .ok (.iload_n 1, 1) := by decide +kernel
theorem dX9_tries_30 : decode cX9_tries 30 = .ok (.if_icmp .ge 23, 3) := by decide +kernel
theorem dX9_tries_33 : decode cX9_tries 33 = .ok (.aload_n 0, 1) := by decide +kernel
theorem dX9_tries_34 : decode cX9_tries 34 = .ok (.getfield 107, 3) := by decide +kernel
theorem dX9_tries_37 : decode cX9_tries 37 = .ok (.iload 5, 2) := by decide +kernel
theorem dX9_tries_39 : decode cX9_tries 39 = .ok (.aload_n 0, 1) := by decide +kernel
theorem dX9_tries_40 : decode cX9_tries 40 = .ok (.getfield 104, 3) := by decide +kernel
theorem dX9_tries_43 : decode cX9_tries 43 = .ok (.iload 5, 2) := by decide +kernel
theorem dX9_tries_45 : decode cX9_tries 45 = .ok (.iaload, 1) := by decide +kernel
theorem dX9_tries_46 : decode cX9_tries 46 = .ok (.iastore, 1) := by decide +kernel
theorem dX9_tries_47 : decode cX9_tries 47 = .ok (.iinc 5 1, 3) := by decide +kernel
theorem dX9_tries_50 : decode cX9_tries 50 = .ok (.goto (-23), 3) := by decide +kernel
theorem dX9_tries_53 : decode cX9_tries 53 = .ok (.return_, 1) := by decide +kernel
theorem dX9_tries_54 : decode cX9_tries 54 = .ok (.aload_n 0, 1) := by decide +kernel
theorem dX9_tries_55 : decode cX9_tries 55 = .ok (.getfield 101, 3) := by decide +kernel
theorem dX9_tries_58 : decode cX9_tries 58 = .ok (.iload_n 1, 1) := by decide +kernel
theorem dX9_tries_59 : decode cX9_tries 59 = .ok (.iaload, 1) := by decide +kernel
theorem dX9_tries_60 : decode cX9_tries 60 = .ok (.istore 5, 2) := by decide +kernel
theorem dX9_tries_62 : decode cX9_tries 62 = .ok (.iconst 0, 1) := by decide +kernel
theorem dX9_tries_63 : decode cX9_tries 63 = .ok (.istore 6, 2) := by decide +kernel
theorem dX9_tries_65 : decode cX9_tries 65 = .ok (.iconst 0, 1) := by decide +kernel
theorem dX9_tries_66 : decode cX9_tries 66 = .ok (.istore 7, 2) := by decide +kernel
theorem dX9_tries_68 : decode cX9_tries 68 = .ok (.iload 7, 2) := by decide +kernel
theorem dX9_tries_70 : decode cX9_tries 70 = .ok (.iload_n 1, 1) := by decide +kernel
theorem dX9_tries_71 : decode cX9_tries 71 = .ok (.if_icmp .ge 54, 3) := by decide +kernel
theorem dX9_tries_74 : decode cX9_tries 74 = .ok (.iload 6, 2) := by decide +kernel
theorem dX9_tries_76 : decode cX9_tries 76 = .ok (.ifCond .ne 36, 3) := by decide +kernel
theorem dX9_tries_79 : decode cX9_tries 79 = .ok (.aload_n 0, 1) := by decide +kernel
theorem dX9_tries_80 : decode cX9_tries 80 = .ok (.getfield 104, 3) := by decide +kernel
theorem dX9_tries_83 : decode cX9_tries 83 = .ok (.iload 7, 2) := by decide +kernel
theorem dX9_tries_85 : decode cX9_tries 85 = .ok (.iaload, 1) := by decide +kernel
theorem dX9_tries_86 : decode cX9_tries 86 = .ok (.iconst (-1), 1) := by decide +kernel
theorem dX9_tries_87 : decode cX9_tries 87 = .ok (.if_icmp .eq 29, 3) := by decide +kernel
theorem dX9_tries_90 : decode cX9_tries 90 = .ok (.aload_n 0, 1) := by decide +kernel
theorem dX9_tries_91 : decode cX9_tries 91 = .ok (.getfield 44, 3) := by decide +kernel
theorem dX9_tries_94 : decode cX9_tries 94 = .ok (.aload_n 0, 1) := by decide +kernel
theorem dX9_tries_95 : decode cX9_tries 95 = .ok (.getfield 101, 3) := by decide +kernel
theorem dX9_tries_98 : decode cX9_tries 98 = .ok (.iload 7, 2) := by decide +kernel
theorem dX9_tries_100 : decode cX9_tries 100 = .ok (.iaload, 1) := by decide +kernel
theorem dX9_tries_101 : decode cX9_tries 101 = .ok (.iaload, 1) := by decide +kernel
theorem dX9_tries_102 : decode cX9_tries 102 = .ok (.aload_n 0, 1) := by decide +kernel
theorem dX9_tries_103 : decode cX9_tries 103 = .ok (.getfield 44, 3) := by decide +kernel
theorem dX9_tries_106 : decode cX9_tries 106 = .ok (.iload 5, 2) := by decide +kernel
theorem dX9_tries_108 : decode cX9_tries 108 = .ok (.iaload, 1) := by decide +kernel
theorem dX9_tries_109 : decode cX9_tries 109 = .ok (.if_icmp .ne 7, 3) := by decide +kernel
theorem dX9_tries_112 : decode cX9_tries 112 = .ok (.iconst 1, 1) := by decide +kernel
theorem dX9_tries_113 : decode cX9_tries 113 = .ok (.goto 4, 3) := by decide +kernel
theorem dX9_tries_116 : decode cX9_tries 116 = .ok (.iconst 0, 1) := by decide +kernel
theorem dX9_tries_117 : decode cX9_tries 117 = .ok (.istore 6, 2) := by decide +kernel
theorem dX9_tries_119 : decode cX9_tries 119 = .ok (.iinc 7 1, 3) := by decide +kernel
theorem dX9_tries_122 : decode cX9_tries 122 = .ok (.goto (-54), 3) := by decide +kernel
theorem dX9_tries_125 : decode cX9_tries 125 = .ok (.iconst 0, 1) := by decide +kernel
theorem dX9_tries_126 : decode cX9_tries 126 = .ok (.istore 7, 2) := by decide +kernel
theorem dX9_tries_128 : decode cX9_tries 128 = .ok (.iload 7, 2) := by decide +kernel
theorem dX9_tries_130 : decode cX9_tries 130 = .ok (.bipush 6, 2) := by decide +kernel
theorem dX9_tries_132 : decode cX9_tries 132 = .ok (.if_icmp .ge 78, 3) := by decide +kernel
theorem dX9_tries_135 : decode cX9_tries 135 = .ok (.iload 6, 2) := by decide +kernel
theorem dX9_tries_137 : decode cX9_tries 137 = .ok (.ifCond .ne 73, 3) := by decide +kernel
theorem dX9_tries_140 : decode cX9_tries 140 = .ok (.iload_n 3, 1) := by decide +kernel
theorem dX9_tries_141 : decode cX9_tries 141 = .ok (.iload 7, 2) := by decide +kernel
theorem dX9_tries_143 : decode cX9_tries 143 = .ok (.ishr, 1) := by decide +kernel
theorem dX9_tries_144 : decode cX9_tries 144 = .ok (.iconst 1, 1) := by decide +kernel
theorem dX9_tries_145 : decode cX9_tries 145 = .ok (.iand, 1) := by decide +kernel
theorem dX9_tries_146 : decode cX9_tries 146 = .ok (.iconst 1, 1) := by decide +kernel
theorem dX9_tries_147 : decode cX9_tries 147 = .ok (.if_icmp .eq 57, 3) := by decide +kernel
theorem dX9_tries_150 : decode cX9_tries 150 = .ok (.aload_n 0, 1) := by decide +kernel
theorem dX9_tries_151 : decode cX9_tries 151 = .ok (.iload 5, 2) := by decide +kernel
theorem dX9_tries_153 : decode cX9_tries 153 = .ok (.iload_n 2, 1) := by decide +kernel
theorem dX9_tries_154 : decode cX9_tries 154 = .ok (.iload 7, 2) := by decide +kernel
theorem dX9_tries_156 : decode cX9_tries 156 = .ok (.invokevirtual 160, 3) := by decide +kernel
theorem dX9_tries_159 : decode cX9_tries 159 = .ok (.ifCond .ne 6, 3) := by decide +kernel
theorem dX9_tries_162 : decode cX9_tries 162 = .ok (.goto 42, 3) := by decide +kernel
theorem dX9_tries_165 : decode cX9_tries 165 = .ok (.aload_n 0, 1) := by decide +kernel
theorem dX9_tries_166 : decode cX9_tries 166 = .ok (.getfield 104, 3) := by decide +kernel
theorem dX9_tries_169 : decode cX9_tries 169 = .ok (.iload_n 1, 1) := by decide +kernel
theorem dX9_tries_170 : decode cX9_tries 170 = .ok (.iload 7, 2) := by decide +kernel
theorem dX9_tries_172 : decode cX9_tries 172 = .ok (.iastore, 1) := by decide +kernel
theorem dX9_tries_173 : decode cX9_tries 173 = .ok (.aload_n 0, 1) := by decide +kernel
theorem dX9_tries_174 : decode cX9_tries 174 = .ok (.iload_n 1, 1) := by decide +kernel
theorem dX9_tries_175 : decode cX9_tries 175 = .ok (.iconst 1, 1) := by decide +kernel
theorem dX9_tries_176 : decode cX9_tries 176 = .ok (.iadd, 1) := by decide +kernel
theorem dX9_tries_177 : decode cX9_tries 177 = .ok (.iload_n 2, 1) := by decide +kernel
theorem dX9_tries_178 : decode cX9_tries 178 = .ok (.iload_n 3, 1) := by decide +kernel
theorem dX9_tries_179 : decode cX9_tries 179 = .ok (.iconst 1, 1) := by decide +kernel
theorem dX9_tries_180 : decode cX9_tries 180 = .ok (.iload 7, 2) := by decide +kernel
theorem dX9_tries_182 : decode cX9_tries 182 = .ok (.ishl, 1) := by decide +kernel
theorem dX9_tries_183 : decode cX9_tries 183 = .ok (.ior, 1) := by decide +kernel
theorem dX9_tries_184 : decode cX9_tries 184 = .ok (.iload 4, 2) := by decide +kernel
theorem dX9_tries_186 : decode cX9_tries 186 = .ok (.iconst 1, 1) := by decide +kernel
theorem dX9_tries_187 : decode cX9_tries 187 = .ok (.iadd, 1) := by decide +kernel
theorem dX9_tries_188 : decode cX9_tries 188 = .ok (.aload_n 0, 1) := by decide +kernel
theorem dX9_tries_189 : decode cX9_tries 189 = .ok (.getfield 128, 3) := by decide +kernel
theorem dX9_tries_192 : decode cX9_tries 192 = .ok (.iadd, 1) := by decide +kernel
theorem dX9_tries_193 : decode cX9_tries 193 = .ok (.aload_n 0, 1) := by decide +kernel
theorem dX9_tries_194 : decode cX9_tries 194 = .ok (.getfield 50, 3) := by decide +kernel
theorem dX9_tries_197 : decode cX9_tries 197 = .ok (.iload 5, 2) := by decide +kernel
theorem dX9_tries_199 : decode cX9_tries 199 = .ok (.iaload, 1) := by decide +kernel
theorem dX9_tries_200 : decode cX9_tries 200 = .ok (.isub, 1) := by decide +kernel
theorem dX9_tries_201 : decode cX9_tries 201 = .ok (.invokevirtual 194, 3) := by decide +kernel
theorem dX9_tries_204 : decode cX9_tries 204 = .ok (.iinc 7 1, 3) := by decide +kernel
theorem dX9_tries_207 : decode cX9_tries 207 = .ok (.goto (-79), 3) := by decide +kernel
theorem dX9_tries_210 : decode cX9_tries 210 = .ok (.aload_n 0, 1) := by decide +kernel
theorem dX9_tries_211 : decode cX9_tries 211 = .ok (.getfield 104, 3) := by decide +kernel
theorem dX9_tries_214 : decode cX9_tries 214 = .ok (.iload_n 1, 1) := by decide +kernel
theorem dX9_tries_215 : decode cX9_tries 215 = .ok (.iconst (-1), 1) := by decide +kernel
theorem dX9_tries_216 : decode cX9_tries 216 = .ok (.iastore, 1) := by decide +kernel
theorem dX9_tries_217 : decode cX9_tries 217 = .ok (.aload_n 0, 1) := by decide +kernel
theorem dX9_tries_218 : decode cX9_tries 218 = .ok (.iload_n 1, 1) := by decide +kernel
theorem dX9_tries_219 : decode cX9_tries 219 = .ok (.iconst 1, 1) := by decide +kernel
theorem dX9_tries_220 : decode cX9_tries 220 = .ok (.iadd, 1) := by decide +kernel
theorem dX9_tries_221 : decode cX9_tries 221 = .ok (.iload_n 2, 1) := by decide +kernel
theorem dX9_tries_222 : decode cX9_tries 222 = .ok (.iload_n 3, 1) := by decide +kernel
theorem dX9_tries_223 : decode cX9_tries 223 = .ok (.iload 4, 2) := by decide +kernel
theorem dX9_tries_225 : decode cX9_tries 225 = .ok (.invokevirtual 194, 3) := by decide +kernel
theorem dX9_tries_228 : decode cX9_tries 228 = .ok (.return_, 1) := by decide +kernel
theorem dX9_plans_0 : decode cX9_plans 0 = .ok (.iload_n 1, 1) := by decide +kernel
theorem dX9_plans_1 : decode cX9_plans 1 = .ok (.aload_n 0, 1) := by decide +kernel
theorem dX9_plans_2 : decode cX9_plans 2 = .ok (.getfield 128, 3) := by decide +kernel
theorem dX9_plans_5 : decode cX9_plans 5 = .ok (.sipush 20000, 3) := by decide +kernel
theorem dX9_plans_8 : decode cX9_plans 8 = .ok (.invokestatic 113, 3) := by decide +kernel
theorem dX9_plans_11 : decode cX9_plans 11 = .ok (.ifCond .ne 5, 3) := by decide +kernel
theorem dX9_plans_14 : decode cX9_plans 14 = .ok (.iconst 0, 1) := by decide +kernel
theorem dX9_plans_15 : decode cX9_plans 15 = .ok (.ireturn, 1) := by decide +kernel
theorem dX9_plans_16 : decode cX9_plans 16 = .ok (.aload_n 0, 1) := by decide +kernel
theorem dX9_plans_17 : decode cX9_plans 17 = .ok (.iconst 0, 1) := by decide +kernel
theorem dX9_plans_18 : decode cX9_plans 18 = .ok (.putfield 188, 3) := by decide +kernel
theorem dX9_plans_21 : decode cX9_plans 21 = .ok (.iconst 0, 1) := by decide +kernel
theorem dX9_plans_22 : decode cX9_plans 22 = .ok (.istore_n 2, 1) := by decide +kernel
theorem dX9_plans_23 : decode cX9_plans 23 = .ok (.iload_n 2, 1) := by decide +kernel
theorem dX9_plans_24 : decode cX9_plans 24 = .ok (.aload_n 0, 1) := by decide +kernel
theorem dX9_plans_25 : decode cX9_plans 25 = .ok (.getfield 110, 3) := by decide +kernel
theorem dX9_plans_28 : decode cX9_plans 28 = .ok (.if_icmp .ge 85, 3) := by decide +kernel
theorem dX9_plans_31 : decode cX9_plans 31 = .ok (.aload_n 0, 1) := by decide +kernel
theorem dX9_plans_32 : decode cX9_plans 32 = .ok (.getfield 53, 3) := by decide +kernel
theorem dX9_plans_35 : decode cX9_plans 35 = .ok (.iload_n 2, 1) := by decide +kernel
theorem dX9_plans_36 : decode cX9_plans 36 = .ok (.iaload, 1) := by decide +kernel
theorem dX9_plans_37 : decode cX9_plans 37 = .ok (.iconst (-1), 1) := by decide +kernel
theorem dX9_plans_38 : decode cX9_plans 38 = .ok (.if_icmp .ne 69, 3) := by decide +kernel
theorem dX9_plans_41 : decode cX9_plans 41 = .ok (.aload_n 0, 1) := by decide +kernel
theorem dX9_plans_42 : decode cX9_plans 42 = .ok (.getfield 67, 3) := by decide +kernel
theorem dX9_plans_45 : decode cX9_plans 45 = .ok (.iload_n 2, 1) := by decide +kernel
theorem dX9_plans_46 : decode cX9_plans 46 = .ok (.aaload, 1) := by decide +kernel
theorem dX9_plans_47 : decode cX9_plans 47 = .ok (.iconst 0, 1) := by decide +kernel
theorem dX9_plans_48 : decode cX9_plans 48 = .ok (.iaload, 1) := by decide +kernel
theorem dX9_plans_49 : decode cX9_plans 49 = .ok (.aload_n 0, 1) := by decide +kernel
theorem dX9_plans_50 : decode cX9_plans 50 = .ok (.getfield 64, 3) := by decide +kernel
theorem dX9_plans_53 : decode cX9_plans 53 = .ok (.iload_n 2, 1) := by decide +kernel
theorem dX9_plans_54 : decode cX9_plans 54 = .ok (.aaload, 1) := by decide +kernel
theorem dX9_plans_55 : decode cX9_plans 55 = .ok (.iconst 0, 1) := by decide +kernel
theorem dX9_plans_56 : decode cX9_plans 56 = .ok (.iaload, 1) := by decide +kernel
theorem dX9_plans_57 : decode cX9_plans 57 = .ok (.if_icmp .eq 50, 3) := by decide +kernel
theorem dX9_plans_60 : decode cX9_plans 60 = .ok (.aload_n 0, 1) := by decide +kernel
theorem dX9_plans_61 : decode cX9_plans 61 = .ok (.aload_n 0, 1) := by decide +kernel
theorem dX9_plans_62 : decode cX9_plans 62 = .ok (.getfield 44, 3) := by decide +kernel
theorem dX9_plans_65 : decode cX9_plans 65 = .ok (.iload_n 2, 1) := by decide +kernel
theorem dX9_plans_66 : decode cX9_plans 66 = .ok (.iaload, 1) := by decide +kernel
theorem dX9_plans_67 : decode cX9_plans 67 = .ok (.iload_n 1, 1) := by decide +kernel
theorem dX9_plans_68 : decode cX9_plans 68 = .ok (.invokevirtual 163, 3) := by decide +kernel
theorem dX9_plans_71 : decode cX9_plans 71 = .ok (.ifCond .eq 6, 3) := by decide +kernel
theorem dX9_plans_74 : decode cX9_plans 74 = .ok (.goto 33, 3) := by decide +kernel
theorem dX9_plans_77 : decode cX9_plans 77 = .ok (.aload_n 0, 1) := by decide +kernel
theorem dX9_plans_78 : decode cX9_plans 78 = .ok (.getfield 188, 3) := by decide +kernel
theorem dX9_plans_81 : decode cX9_plans 81 = .ok (.iconst 5, 1) := by decide +kernel
theorem dX9_plans_82 : decode cX9_plans 82 = .ok (.if_icmp .ne 5, 3) := by decide +kernel
theorem dX9_plans_85 : decode cX9_plans 85 = .ok (.iconst 0, 1) := by decide +kernel
theorem dX9_plans_86 : decode cX9_plans 86 = .ok (.ireturn, 1) := by decide +kernel
theorem dX9_plans_87 : decode cX9_plans 87 = .ok (.aload_n 0, 1) := by decide +kernel
theorem dX9_plans_88 : decode cX9_plans 88 = .ok (.getfield 101, 3) := by decide +kernel
theorem dX9_plans_91 : decode cX9_plans 91 = .ok (.aload_n 0, 1) := by decide +kernel
theorem dX9_plans_92 : decode cX9_plans 92 = .ok (.getfield 188, 3) := by decide +kernel
theorem dX9_plans_95 : decode cX9_plans 95 = .ok (.iload_n 2, 1) := by decide +kernel
theorem dX9_plans_96 : decode cX9_plans 96 = .ok (.iastore, 1) := by decide +kernel
theorem dX9_plans_97 : decode cX9_plans 97 = .ok (.aload_n 0, 1) := by decide +kernel
theorem dX9_plans_98 : decode cX9_plans 98 = .ok (.dup, 1) := by decide +kernel
theorem dX9_plans_99 : decode cX9_plans 99 = .ok (.getfield 188, 3) := by decide +kernel
theorem dX9_plans_102 : decode cX9_plans 102 = .ok (.iconst 1, 1) := by decide +kernel
theorem dX9_plans_103 : decode cX9_plans 103 = .ok (.iadd, 1) := by decide +kernel
theorem dX9_plans_104 : decode cX9_plans 104 = .ok (.putfield 188, 3) := by decide +kernel
theorem dX9_plans_107 : decode cX9_plans 107 = .ok (.iinc 2 1, 3) := by decide +kernel
theorem dX9_plans_110 : decode cX9_plans 110 = .ok (.goto (-87), 3) := by decide +kernel
theorem dX9_plans_113 : decode cX9_plans 113 = .ok (.aload_n 0, 1) := by decide +kernel
theorem dX9_plans_114 : decode cX9_plans 114 = .ok (.getfield 188, 3) := by decide +kernel
theorem dX9_plans_117 : decode cX9_plans 117 = .ok (.ifCond .ne 5, 3) := by decide +kernel
theorem dX9_plans_120 : decode cX9_plans 120 = .ok (.iconst 0, 1) := by decide +kernel
theorem dX9_plans_121 : decode cX9_plans 121 = .ok (.ireturn, 1) := by decide +kernel
theorem dX9_plans_122 : decode cX9_plans 122 = .ok (.aload_n 0, 1) := by decide +kernel
theorem dX9_plans_123 : decode cX9_plans 123 = .ok (.iconst (-1), 1) := by decide +kernel
theorem dX9_plans_124 : decode cX9_plans 124 = .ok (.putfield 191, 3) := by decide +kernel
theorem dX9_plans_127 : decode cX9_plans 127 = .ok (.aload_n 0, 1) := by decide +kernel
theorem dX9_plans_128 : decode cX9_plans 128 = .ok (.iconst 0, 1) := by decide +kernel
theorem dX9_plans_129 : decode cX9_plans 129 = .ok (.iload_n 1, 1) := by decide +kernel
theorem dX9_plans_130 : decode cX9_plans 130 = .ok (.iconst 0, 1) := by decide +kernel
theorem dX9_plans_131 : decode cX9_plans 131 = .ok (.iconst 0, 1) := by decide +kernel
theorem dX9_plans_132 : decode cX9_plans 132 = .ok (.invokevirtual 194, 3) := by decide +kernel
theorem dX9_plans_135 : decode cX9_plans 135 = .ok (.iconst 1, 1) := by decide +kernel
theorem dX9_plans_136 : decode cX9_plans 136 = .ok (.ireturn, 1) := by decide +kernel
theorem dX9_planned_0 : decode cX9_planned 0 = .ok (.aload_n 0, 1) := by decide +kernel
theorem dX9_planned_1 : decode cX9_planned 1 = .ok (.iload_n 1, 1) := by decide +kernel
theorem dX9_planned_2 : decode cX9_planned 2 = .ok (.invokevirtual 198, 3) := by decide +kernel
theorem dX9_planned_5 : decode cX9_planned 5 = .ok (.ifCond .ne 5, 3) := by decide +kernel
theorem dX9_planned_8 : decode cX9_planned 8 = .ok (.iconst (-1), 1) := by decide +kernel
theorem dX9_planned_9 : decode cX9_planned 9 = .ok (.ireturn, 1) := by decide +kernel
theorem dX9_planned_10 : decode cX9_planned 10 = .ok (.iconst 0, 1) := by decide +kernel
theorem dX9_planned_11 : decode cX9_planned 11 = .ok (.istore_n 3, 1) := by decide +kernel
theorem dX9_planned_12 : decode cX9_planned 12 = .ok (.iload_n 3, 1) := by decide +kernel
theorem dX9_planned_13 : decode cX9_planned 13 = .ok (.aload_n 0, 1) := by decide +kernel
theorem dX9_planned_14 : decode cX9_planned 14 = .ok (.getfield 188, 3) := by decide +kernel
theorem dX9_planned_17 : decode cX9_planned 17 = .ok (.if_icmp .ge 26, 3) := by decide +kernel
theorem dX9_planned_20 : decode cX9_planned 20 = .ok (.aload_n 0, 1) := by decide +kernel
theorem dX9_planned_21 : decode cX9_planned 21 = .ok (.getfield 101, 3) := by decide +kernel
theorem dX9_planned_24 : decode cX9_planned 24 = .ok (.iload_n 3, 1) := by decide +kernel
theorem dX9_planned_25 : decode cX9_planned 25 = .ok (.iaload, 1) := by decide +kernel
theorem dX9_planned_26 : decode cX9_planned 26 = .ok (.iload_n 2, 1) := by decide +kernel
theorem dX9_planned_27 : decode cX9_planned 27 = .ok (.if_icmp .ne 10, 3) := by decide +kernel
theorem dX9_planned_30 : decode cX9_planned 30 = .ok (.aload_n 0, 1) := by decide +kernel
theorem dX9_planned_31 : decode cX9_planned 31 = .ok (.getfield 107, 3) := by decide +kernel
theorem dX9_planned_34 : decode cX9_planned 34 = .ok (.iload_n 3, 1) := by decide +kernel
theorem dX9_planned_35 : decode cX9_planned 35 = .ok (.iaload, 1) := by decide +kernel
theorem dX9_planned_36 : decode cX9_planned 36 = .ok (.ireturn, 1) := by decide +kernel
theorem dX9_planned_37 : decode cX9_planned 37 = .ok (.iinc 3 1, 3) := by decide +kernel
theorem dX9_planned_40 : decode cX9_planned 40 = .ok (.goto (-28), 3) := by decide +kernel
theorem dX9_planned_43 : decode cX9_planned 43 = .ok (.iconst (-1), 1) := by decide +kernel
theorem dX9_planned_44 : decode cX9_planned 44 = .ok (.ireturn, 1) := by decide +kernel
theorem dX9_worth_0 : decode cX9_worth 0 = .ok (.aload_n 0, 1) := by decide +kernel
theorem dX9_worth_1 : decode cX9_worth 1 = .ok (.iload_n 1, 1) := by decide +kernel
theorem dX9_worth_2 : decode cX9_worth 2 = .ok (.invokevirtual 198, 3) := by decide +kernel
theorem dX9_worth_5 : decode cX9_worth 5 = .ok (.ifCond .eq 10, 3) := by decide +kernel
theorem dX9_worth_8 : decode cX9_worth 8 = .ok (.aload_n 0, 1) := by decide +kernel
theorem dX9_worth_9 : decode cX9_worth 9 = .ok (.getfield 191, 3) := by decide +kernel
theorem dX9_worth_12 : decode cX9_worth 12 = .ok (.goto 4, 3) := by decide +kernel
theorem dX9_worth_15 : decode cX9_worth 15 = .ok (.iconst (-1), 1) := by decide +kernel
theorem dX9_worth_16 : decode cX9_worth 16 = .ok (.ireturn, 1) := by decide +kernel
theorem dX9_trace_0 : decode cX9_trace 0 = .ok (.aload_n 0, 1) := by decide +kernel
theorem dX9_trace_1 : decode cX9_trace 1 = .ok (.iload_n 1, 1) := by decide +kernel
theorem dX9_trace_2 : decode cX9_trace 2 = .ok (.invokevirtual 157, 3) := by decide +kernel
theorem dX9_trace_5 : decode cX9_trace 5 = .ok (.ifCond .eq 13, 3) := by decide +kernel
theorem dX9_trace_8 : decode cX9_trace 8 = .ok (.iload_n 2, 1) := by decide +kernel
theorem dX9_trace_9 : decode cX9_trace 9 = .ok (.iconst 0, 1) := by decide +kernel
theorem dX9_trace_10 : decode cX9_trace 10 = .ok (.ldc 201, 2) := by decide +kernel
theorem dX9_trace_12 : decode cX9_trace 12 = .ok (.invokestatic 113, 3) := by decide +kernel
theorem dX9_trace_15 : decode cX9_trace 15 = .ok (.ifCond .ne 5, 3) := by decide +kernel
theorem dX9_trace_18 : decode cX9_trace 18 = .ok (.iconst 0, 1) := by decide +kernel
theorem dX9_trace_19 : decode cX9_trace 19 = .ok (.ireturn, 1) := by decide +kernel
theorem dX9_trace_20 : decode cX9_trace 20 = .ok (.aload_n 0, 1) := by decide +kernel
theorem dX9_trace_21 : decode cX9_trace 21 = .ok (.getfield 59, 3) := by decide +kernel
theorem dX9_trace_24 : decode cX9_trace 24 = .ok (.iload_n 1, 1) := by decide +kernel
theorem dX9_trace_25 : decode cX9_trace 25 = .ok (.iload_n 2, 1) := by decide +kernel
theorem dX9_trace_26 : decode cX9_trace 26 = .ok (.iastore, 1) := by decide +kernel
theorem dX9_trace_27 : decode cX9_trace 27 = .ok (.iconst 1, 1) := by decide +kernel
theorem dX9_trace_28 : decode cX9_trace 28 = .ok (.ireturn, 1) := by decide +kernel
theorem dX9_differ_0 : decode cX9_differ 0 = .ok (.aload_n 0, 1) := by decide +kernel
theorem dX9_differ_1 : decode cX9_differ 1 = .ok (.getfield 59, 3) := by decide +kernel
theorem dX9_differ_4 : decode cX9_differ 4 = .ok (.iload_n 1, 1) := by decide +kernel
theorem dX9_differ_5 : decode cX9_differ 5 = .ok (.iaload, 1) := by decide +kernel
theorem dX9_differ_6 : decode cX9_differ 6 = .ok (.aload_n 0, 1) := by decide +kernel
theorem dX9_differ_7 : decode cX9_differ 7 = .ok (.getfield 59, 3) := by decide +kernel
theorem dX9_differ_10 : decode cX9_differ 10 = .ok (.iload_n 2, 1) := by decide +kernel
theorem dX9_differ_11 : decode cX9_differ 11 = .ok (.iaload, 1) := by decide +kernel
theorem dX9_differ_12 : decode cX9_differ 12 = .ok (.ixor, 1) := by decide +kernel
theorem dX9_differ_13 : decode cX9_differ 13 = .ok (.istore_n 3, 1) := by decide +kernel
theorem dX9_differ_14 : decode cX9_differ 14 = .ok (.iconst 0, 1) := by decide +kernel
theorem dX9_differ_15 : decode cX9_differ 15 = .ok (.istore 4, 2) := by decide +kernel
theorem dX9_differ_17 : decode cX9_differ 17 = .ok (.iload_n 3, 1) := by decide +kernel
theorem dX9_differ_18 : decode cX9_differ 18 = .ok (.ifCond .eq 18, 3) := by decide +kernel
theorem dX9_differ_21 : decode cX9_differ 21 = .ok (.iload 4, 2) := by decide +kernel
theorem dX9_differ_23 : decode cX9_differ 23 = .ok (.iload_n 3, 1) := by decide +kernel
theorem dX9_differ_24 : decode cX9_differ 24 = .ok (.iconst 1, 1) := by decide +kernel
theorem dX9_differ_25 : decode cX9_differ 25 = .ok (.iand, 1) := by decide +kernel
theorem dX9_differ_26 : decode cX9_differ 26 = .ok (.iadd, 1) := by decide +kernel
theorem dX9_differ_27 : decode cX9_differ 27 = .ok (.istore 4, 2) := by decide +kernel
theorem dX9_differ_29 : decode cX9_differ 29 = .ok (.iload_n 3, 1) := by decide +kernel
theorem dX9_differ_30 : decode cX9_differ 30 = .ok (.iconst 1, 1) := by decide +kernel
theorem dX9_differ_31 : decode cX9_differ 31 = .ok (.ishr, 1) := by decide +kernel
theorem dX9_differ_32 : decode cX9_differ 32 = .ok (.istore_n 3, 1) := by decide +kernel
theorem dX9_differ_33 : decode cX9_differ 33 = .ok (.goto (-16), 3) := by decide +kernel
theorem dX9_differ_36 : decode cX9_differ 36 = .ok (.iload 4, 2) := by decide +kernel
theorem dX9_differ_38 : decode cX9_differ 38 = .ok (.ireturn, 1) := by decide +kernel
theorem dX9_from_0 : decode cX9_from 0 = .ok (.aload_n 0, 1) := by decide +kernel
theorem dX9_from_1 : decode cX9_from 1 = .ok (.iload_n 1, 1) := by decide +kernel
theorem dX9_from_2 : decode cX9_from 2 = .ok (.invokevirtual 157, 3) := by decide +kernel
theorem dX9_from_5 : decode cX9_from 5 = .ok (.ifCond .eq 13, 3) := by decide +kernel
theorem dX9_from_8 : decode cX9_from 8 = .ok (.aload_n 0, 1) := by decide +kernel
theorem dX9_from_9 : decode cX9_from 9 = .ok (.getfield 59, 3) := by decide +kernel
theorem dX9_from_12 : decode cX9_from 12 = .ok (.iload_n 1, 1) := by decide +kernel
theorem dX9_from_13 : decode cX9_from 13 = .ok (.iaload, 1) := by decide +kernel
theorem dX9_from_14 : decode cX9_from 14 = .ok (.iconst (-1), 1) := by decide +kernel
theorem dX9_from_15 : decode cX9_from 15 = .ok (.if_icmp .ne 5, 3) := by decide +kernel
theorem dX9_from_18 : decode cX9_from 18 = .ok (.iconst (-1), 1) := by decide +kernel
theorem dX9_from_19 : decode cX9_from 19 = .ok (.ireturn, 1) := by decide +kernel
theorem dX9_from_20 : decode cX9_from 20 = .ok (.iconst (-1), 1) := by decide +kernel
theorem dX9_from_21 : decode cX9_from 21 = .ok (.istore_n 2, 1) := by decide +kernel
theorem dX9_from_22 : decode cX9_from 22 = .ok (.iconst 0, 1) := by decide +kernel
theorem dX9_from_23 : decode cX9_from 23 = .ok (.istore_n 3, 1) := by decide +kernel
theorem dX9_from_24 : decode cX9_from 24 = .ok (.iload_n 3, 1) := by decide +kernel
theorem dX9_from_25 : decode cX9_from 25 = .ok (.iload_n 1, 1) := by decide +kernel
theorem dX9_from_26 : decode cX9_from 26 = .ok (.if_icmp .ge 41, 3) := by decide +kernel
theorem dX9_from_29 : decode cX9_from 29 = .ok (.aload_n 0, 1) := by decide +kernel
theorem dX9_from_30 : decode cX9_from 30 = .ok (.getfield 59, 3) := by decide +kernel
theorem dX9_from_33 : decode cX9_from 33 = .ok (.iload_n 3, 1) := by decide +kernel
theorem dX9_from_34 : decode cX9_from 34 = .ok (.iaload, 1) := by decide +kernel
theorem dX9_from_35 : decode cX9_from 35 = .ok (.iconst (-1), 1) := by decide +kernel
theorem dX9_from_36 : decode cX9_from 36 = .ok (.if_icmp .eq 25, 3) := by decide +kernel
theorem dX9_from_39 : decode cX9_from 39 = .ok (.iload_n 2, 1) := by decide +kernel
theorem dX9_from_40 : decode cX9_from 40 = .ok (.iconst (-1), 1) := by decide +kernel
theorem dX9_from_41 : decode cX9_from 41 = .ok (.if_icmp .eq 18, 3) := by decide +kernel
theorem dX9_from_44 : decode cX9_from 44 = .ok (.aload_n 0, 1) := by decide +kernel
theorem dX9_from_45 : decode cX9_from 45 = .ok (.iload_n 1, 1) := by decide +kernel
theorem dX9_from_46 : decode cX9_from 46 = .ok (.iload_n 3, 1) := by decide +kernel
theorem dX9_from_47 : decode cX9_from 47 = .ok (.invokevirtual 202, 3) := by decide +kernel
theorem dX9_from_50 : decode cX9_from 50 = .ok (.aload_n 0, 1) := by decide +kernel
theorem dX9_from_51 : decode cX9_from 51 = .ok (.iload_n 1, 1) := by decide +kernel
theorem dX9_from_52 : decode cX9_from 52 = .ok (.iload_n 2, 1) := by decide +kernel
theorem dX9_from_53 : decode cX9_from 53 = .ok (.invokevirtual 202, 3) := by decide +kernel
theorem dX9_from_56 : decode cX9_from 56 = .ok (.if_icmp .ge 5, 3) := by decide +kernel
theorem dX9_from_59 : decode cX9_from 59 = .ok (.iload_n 3, 1) := by decide +kernel
theorem dX9_from_60 : decode cX9_from 60 = .ok (.istore_n 2, 1) := by decide +kernel
theorem dX9_from_61 : decode cX9_from 61 = .ok (.iinc 3 1, 3) := by decide +kernel
theorem dX9_from_64 : decode cX9_from 64 = .ok (.goto (-40), 3) := by decide +kernel
theorem dX9_from_67 : decode cX9_from 67 = .ok (.iload_n 2, 1) := by decide +kernel
theorem dX9_from_68 : decode cX9_from 68 = .ok (.ireturn, 1) := by decide +kernel
theorem dX9_doubt_0 : decode cX9_doubt 0 = .ok (.aload_n 0, 1) := by decide +kernel
theorem dX9_doubt_1 : decode cX9_doubt 1 = .ok (.iload_n 1, 1) := by decide +kernel
theorem dX9_doubt_2 : decode cX9_doubt 2 = .ok (.invokevirtual 205, 3) := by decide +kernel
theorem dX9_doubt_5 : decode cX9_doubt 5 = .ok (.istore_n 2, 1) := by decide +kernel
theorem dX9_doubt_6 : decode cX9_doubt 6 = .ok (.iload_n 2, 1) := by decide +kernel
theorem dX9_doubt_7 : decode cX9_doubt 7 = .ok (.iconst (-1), 1) := by decide +kernel
theorem dX9_doubt_8 : decode cX9_doubt 8 = .ok (.if_icmp .ne 5, 3) := by decide +kernel
theorem dX9_doubt_11 : decode cX9_doubt 11 = .ok (.iconst 0, 1) := by decide +kernel
theorem dX9_doubt_12 : decode cX9_doubt 12 = .ok (.ireturn, 1) := by decide +kernel
theorem dX9_doubt_13 : decode cX9_doubt 13 = .ok (.iconst 0, 1) := by decide +kernel
theorem dX9_doubt_14 : decode cX9_doubt 14 = .ok (.istore_n 3, 1) := by decide +kernel
theorem dX9_doubt_15 : decode cX9_doubt 15 = .ok (.iload_n 3, 1) := by decide +kernel
theorem dX9_doubt_16 : decode cX9_doubt 16 = .ok (.iload_n 1, 1) := by decide +kernel
theorem dX9_doubt_17 : decode cX9_doubt 17 = .ok (.if_icmp .ge 41, 3) := by decide +kernel
theorem dX9_doubt_20 : decode cX9_doubt 20 = .ok (.iload_n 3, 1) := by decide +kernel
theorem dX9_doubt_21 : decode cX9_doubt 21 = .ok (.iload_n 2, 1) := by decide +kernel
theorem dX9_doubt_22 : decode cX9_doubt 22 = .ok (.if_icmp .eq 30, 3) := by decide +kernel
theorem dX9_doubt_25 : decode cX9_doubt 25 = .ok (.aload_n 0, 1) := by decide +kernel
theorem dX9_doubt_26 : decode cX9_doubt 26 = .ok (.getfield 59, 3) := by decide +kernel
theorem dX9_doubt_29 : decode cX9_doubt 29 = .ok (.iload_n 3, 1) := by decide +kernel
theorem dX9_doubt_30 : decode cX9_doubt 30 = .ok (.iaload, 1) := by decide +kernel
theorem dX9_doubt_31 : decode cX9_doubt 31 = .ok (.iconst (-1), 1) := by decide +kernel
theorem dX9_doubt_32 : decode cX9_doubt 32 = .ok (.if_icmp .eq 20, 3) := by decide +kernel
theorem dX9_doubt_35 : decode cX9_doubt 35 = .ok (.aload_n 0, 1) := by decide +kernel
theorem dX9_doubt_36 : decode cX9_doubt 36 = .ok (.iload_n 1, 1) := by decide +kernel
theorem dX9_doubt_37 : decode cX9_doubt 37 = .ok (.iload_n 3, 1) := by decide +kernel
theorem dX9_doubt_38 : decode cX9_doubt 38 = .ok (.invokevirtual 202, 3) := by decide +kernel
theorem dX9_doubt_41 : decode cX9_doubt 41 = .ok (.aload_n 0, 1) := by decide +kernel
theorem dX9_doubt_42 : decode cX9_doubt 42 = .ok (.iload_n 1, 1) := by decide +kernel
theorem dX9_doubt_43 : decode cX9_doubt 43 = .ok (.iload_n 2, 1) := by decide +kernel
theorem dX9_doubt_44 : decode cX9_doubt 44 = .ok (.invokevirtual 202, 3) := by decide +kernel
theorem dX9_doubt_47 : decode cX9_doubt 47 = .ok (.if_icmp .ne 5, 3) := by decide +kernel
theorem dX9_doubt_50 : decode cX9_doubt 50 = .ok (.iconst 1, 1) := by decide +kernel
theorem dX9_doubt_51 : decode cX9_doubt 51 = .ok (.ireturn, 1) := by decide +kernel
theorem dX9_doubt_52 : decode cX9_doubt 52 = .ok (.iinc 3 1, 3) := by decide +kernel
theorem dX9_doubt_55 : decode cX9_doubt 55 = .ok (.goto (-40), 3) := by decide +kernel
theorem dX9_doubt_58 : decode cX9_doubt 58 = .ok (.iconst 0, 1) := by decide +kernel
theorem dX9_doubt_59 : decode cX9_doubt 59 = .ok (.ireturn, 1) := by decide +kernel
theorem dX9_habit_0 : decode cX9_habit 0 = .ok (.aload_n 0, 1) := by decide +kernel
theorem dX9_habit_1 : decode cX9_habit 1 = .ok (.iload_n 1, 1) := by decide +kernel
theorem dX9_habit_2 : decode cX9_habit 2 = .ok (.invokevirtual 172, 3) := by decide +kernel
theorem dX9_habit_5 : decode cX9_habit 5 = .ok (.ifCond .eq 14, 3) := by decide +kernel
theorem dX9_habit_8 : decode cX9_habit 8 = .ok (.iload_n 2, 1) := by decide +kernel
theorem dX9_habit_9 : decode cX9_habit 9 = .ok (.iconst 0, 1) := by decide +kernel
theorem dX9_habit_10 : decode cX9_habit 10 = .ok (.sipush 9999, 3) := by decide +kernel
theorem dX9_habit_13 : decode cX9_habit 13 = .ok (.invokestatic 113, 3) := by decide +kernel
theorem dX9_habit_16 : decode cX9_habit 16 = .ok (.ifCond .ne 5, 3) := by decide +kernel
theorem dX9_habit_19 : decode cX9_habit 19 = .ok (.iconst 0, 1) := by decide +kernel
theorem dX9_habit_20 : decode cX9_habit 20 = .ok (.ireturn, 1) := by decide +kernel
theorem dX9_habit_21 : decode cX9_habit 21 = .ok (.aload_n 0, 1) := by decide +kernel
theorem dX9_habit_22 : decode cX9_habit 22 = .ok (.getfield 28, 3) := by decide +kernel
theorem dX9_habit_25 : decode cX9_habit 25 = .ok (.iload_n 1, 1) := by decide +kernel
theorem dX9_habit_26 : decode cX9_habit 26 = .ok (.iload_n 2, 1) := by decide +kernel
theorem dX9_habit_27 : decode cX9_habit 27 = .ok (.iastore, 1) := by decide +kernel
theorem dX9_habit_28 : decode cX9_habit 28 = .ok (.iconst 1, 1) := by decide +kernel
theorem dX9_habit_29 : decode cX9_habit 29 = .ok (.ireturn, 1) := by decide +kernel
theorem dX9_margin_0 : decode cX9_margin 0 = .ok (.iload_n 1, 1) := by decide +kernel
theorem dX9_margin_1 : decode cX9_margin 1 = .ok (.iconst 0, 1) := by decide +kernel
theorem dX9_margin_2 : decode cX9_margin 2 = .ok (.bipush 99, 2) := by decide +kernel
theorem dX9_margin_4 : decode cX9_margin 4 = .ok (.invokestatic 113, 3) := by decide +kernel
theorem dX9_margin_7 : decode cX9_margin 7 = .ok (.ifCond .ne 5, 3) := by decide +kernel
theorem dX9_margin_10 : decode cX9_margin 10 = .ok (.iconst 0, 1) := by decide +kernel
theorem dX9_margin_11 : decode cX9_margin 11 = .ok (.ireturn, 1) := by decide +kernel
theorem dX9_margin_12 : decode cX9_margin 12 = .ok (.aload_n 0, 1) := by decide +kernel
theorem dX9_margin_13 : decode cX9_margin 13 = .ok (.iload_n 1, 1) := by decide +kernel
theorem dX9_margin_14 : decode cX9_margin 14 = .ok (.putfield 98, 3) := by decide +kernel
theorem dX9_margin_17 : decode cX9_margin 17 = .ok (.iconst 1, 1) := by decide +kernel
theorem dX9_margin_18 : decode cX9_margin 18 = .ok (.ireturn, 1) := by decide +kernel
theorem dX9_strokes_0 : decode cX9_strokes 0 = .ok (.aload_n 0, 1) := by decide +kernel
theorem dX9_strokes_1 : decode cX9_strokes 1 = .ok (.iload_n 1, 1) := by decide +kernel
theorem dX9_strokes_2 : decode cX9_strokes 2 = .ok (.invokevirtual 157, 3) := by decide +kernel
theorem dX9_strokes_5 : decode cX9_strokes 5 = .ok (.ifCond .eq 23, 3) := by decide +kernel
theorem dX9_strokes_8 : decode cX9_strokes 8 = .ok (.iload_n 2, 1) := by decide +kernel
theorem dX9_strokes_9 : decode cX9_strokes 9 = .ok (.iconst 0, 1) := by decide +kernel
theorem dX9_strokes_10 : decode cX9_strokes 10 = .ok (.iconst 4, 1) := by decide +kernel
theorem dX9_strokes_11 : decode cX9_strokes 11 = .ok (.invokestatic 113, 3) := by decide +kernel
theorem dX9_strokes_14 : decode cX9_strokes 14 = .ok (.ifCond .eq 14, 3) := by decide +kernel
theorem dX9_strokes_17 : decode cX9_strokes 17 = .ok (.iload_n 3, 1) := by decide +kernel
theorem dX9_strokes_18 : decode cX9_strokes 18 = .ok (.iconst 0, 1) := by decide +kernel
theorem dX9_strokes_19 : decode cX9_strokes 19 = .ok (.sipush 9999, 3) := by decide +kernel
theorem dX9_strokes_22 : decode cX9_strokes 22 = .ok (.invokestatic 113, 3) := by decide +kernel
theorem dX9_strokes_25 : decode cX9_strokes 25 = .ok (.ifCond .ne 5, 3) := by decide +kernel
theorem dX9_strokes_28 : decode cX9_strokes 28 = .ok (.iconst 0, 1) := by decide +kernel
theorem dX9_strokes_29 : decode cX9_strokes 29 = .ok (.ireturn, 1) := by decide +kernel
theorem dX9_strokes_30 : decode cX9_strokes 30 = .ok (.aload_n 0, 1) := by decide +kernel
theorem dX9_strokes_31 : decode cX9_strokes 31 = .ok (.getfield 76, 3) := by decide +kernel
theorem dX9_strokes_34 : decode cX9_strokes 34 = .ok (.iload_n 1, 1) := by decide +kernel
theorem dX9_strokes_35 : decode cX9_strokes 35 = .ok (.aaload, 1) := by decide +kernel
theorem dX9_strokes_36 : decode cX9_strokes 36 = .ok (.iload_n 2, 1) := by decide +kernel
theorem dX9_strokes_37 : decode cX9_strokes 37 = .ok (.iload_n 3, 1) := by decide +kernel
theorem dX9_strokes_38 : decode cX9_strokes 38 = .ok (.iastore, 1) := by decide +kernel
theorem dX9_strokes_39 : decode cX9_strokes 39 = .ok (.iconst 1, 1) := by decide +kernel
theorem dX9_strokes_40 : decode cX9_strokes 40 = .ok (.ireturn, 1) := by decide +kernel
theorem dX9_squares_0 : decode cX9_squares 0 = .ok (.iload_n 0, 1) := by decide +kernel
theorem dX9_squares_1 : decode cX9_squares 1 = .ok (.istore_n 2, 1) := by decide +kernel
theorem dX9_squares_2 : decode cX9_squares 2 = .ok (.iload_n 1, 1) := by decide +kernel
theorem dX9_squares_3 : decode cX9_squares 3 = .ok (.istore_n 3, 1) := by decide +kernel
theorem dX9_squares_4 : decode cX9_squares 4 = .ok (.iconst 0, 1) := by decide +kernel
theorem dX9_squares_5 : decode cX9_squares 5 = .ok (.istore 4, 2) := by decide +kernel
theorem dX9_squares_7 : decode cX9_squares 7 = .ok (.iconst 0, 1) := by decide +kernel
theorem dX9_squares_8 : decode cX9_squares 8 = .ok (.istore 5, 2) := by decide +kernel
theorem dX9_squares_10 : decode cX9_squares 10 = .ok (.iload 5, 2) := by decide +kernel
theorem dX9_squares_12 : decode cX9_squares 12 = .ok (.iconst 4, 1) := by decide +kernel
theorem dX9_squares_13 : decode cX9_squares 13 = .ok (.if_icmp .ge 40, 3) := by decide +kernel
theorem dX9_squares_16 : decode cX9_squares 16 = .ok (.iload_n 2, 1) := by decide +kernel
theorem dX9_squares_17 : decode cX9_squares 17 = .ok (.bipush 10, 2) := by decide +kernel
theorem dX9_squares_19 : decode cX9_squares 19 = .ok (.irem, 1) := by decide +kernel
theorem dX9_squares_20 : decode cX9_squares 20 = .ok (.iload_n 3, 1) := by decide +kernel
theorem dX9_squares_21 : decode cX9_squares 21 = .ok (.bipush 10, 2) := by decide +kernel
theorem dX9_squares_23 : decode cX9_squares 23 = .ok (.irem, 1) := by decide +kernel
theorem dX9_squares_24 : decode cX9_squares 24 = .ok (.isub, 1) := by decide +kernel
theorem dX9_squares_25 : decode cX9_squares 25 = .ok (.istore 6, 2) := by decide +kernel
theorem dX9_squares_27 : decode cX9_squares 27 = .ok (.iload 4, 2) := by decide +kernel
theorem dX9_squares_29 : decode cX9_squares 29 = .ok (.iload 6, 2) := by decide +kernel
theorem dX9_squares_31 : decode cX9_squares 31 = .ok (.iload 6, 2) := by decide +kernel
theorem dX9_squares_33 : decode cX9_squares 33 = .ok (.imul, 1) := by decide +kernel
theorem dX9_squares_34 : decode cX9_squares 34 = .ok (.iadd, 1) := by decide +kernel
theorem dX9_squares_35 : decode cX9_squares 35 = .ok (.istore 4, 2) := by decide +kernel
theorem dX9_squares_37 : decode cX9_squares 37 = .ok (.iload_n 2, 1) := by decide +kernel
theorem dX9_squares_38 : decode cX9_squares 38 = .ok (.bipush 10, 2) := by decide +kernel
theorem dX9_squares_40 : decode cX9_squares 40 = .ok (.idiv, 1) := by decide +kernel
theorem dX9_squares_41 : decode cX9_squares 41 = .ok (.istore_n 2, 1) := by decide +kernel
theorem dX9_squares_42 : decode cX9_squares 42 = .ok (.iload_n 3, 1) := by decide +kernel
theorem dX9_squares_43 : decode cX9_squares 43 = .ok (.bipush 10, 2) := by decide +kernel
theorem dX9_squares_45 : decode cX9_squares 45 = .ok (.idiv, 1) := by decide +kernel
theorem dX9_squares_46 : decode cX9_squares 46 = .ok (.istore_n 3, 1) := by decide +kernel
theorem dX9_squares_47 : decode cX9_squares 47 = .ok (.iinc 5 1, 3) := by decide +kernel
theorem dX9_squares_50 : decode cX9_squares 50 = .ok (.goto (-40), 3) := by decide +kernel
theorem dX9_squares_53 : decode cX9_squares 53 = .ok (.iload 4, 2) := by decide +kernel
theorem dX9_squares_55 : decode cX9_squares 55 = .ok (.ireturn, 1) := by decide +kernel
theorem dX9_whose_0 : decode cX9_whose 0 = .ok (.aload_n 0, 1) := by decide +kernel
theorem dX9_whose_1 : decode cX9_whose 1 = .ok (.iload_n 1, 1) := by decide +kernel
theorem dX9_whose_2 : decode cX9_whose 2 = .ok (.invokevirtual 157, 3) := by decide +kernel
theorem dX9_whose_5 : decode cX9_whose 5 = .ok (.ifCond .eq 24, 3) := by decide +kernel
theorem dX9_whose_8 : decode cX9_whose 8 = .ok (.iload_n 2, 1) := by decide +kernel
theorem dX9_whose_9 : decode cX9_whose 9 = .ok (.iconst 0, 1) := by decide +kernel
theorem dX9_whose_10 : decode cX9_whose 10 = .ok (.iconst 4, 1) := by decide +kernel
theorem dX9_whose_11 : decode cX9_whose 11 = .ok (.invokestatic 113, 3) := by decide +kernel
theorem dX9_whose_14 : decode cX9_whose 14 = .ok (.ifCond .eq 15, 3) := by decide +kernel
theorem dX9_whose_17 : decode cX9_whose 17 = .ok (.aload_n 0, 1) := by decide +kernel
theorem dX9_whose_18 : decode cX9_whose 18 = .ok (.getfield 76, 3) := by decide +kernel
theorem dX9_whose_21 : decode cX9_whose 21 = .ok (.iload_n 1, 1) := by decide +kernel
theorem dX9_whose_22 : decode cX9_whose 22 = .ok (.aaload, 1) := by decide +kernel
theorem dX9_whose_23 : decode cX9_whose 23 = .ok (.iload_n 2, 1) := by decide +kernel
theorem dX9_whose_24 : decode cX9_whose 24 = .ok (.iaload, 1) := by decide +kernel
theorem dX9_whose_25 : decode cX9_whose 25 = .ok (.iconst (-1), 1) := by decide +kernel
theorem dX9_whose_26 : decode cX9_whose 26 = .ok (.if_icmp .ne 5, 3) := by decide +kernel
theorem dX9_whose_29 : decode cX9_whose 29 = .ok (.iconst (-1), 1) := by decide +kernel
theorem dX9_whose_30 : decode cX9_whose 30 = .ok (.ireturn, 1) := by decide +kernel
theorem dX9_whose_31 : decode cX9_whose 31 = .ok (.aload_n 0, 1) := by decide +kernel
theorem dX9_whose_32 : decode cX9_whose 32 = .ok (.getfield 76, 3) := by decide +kernel
theorem dX9_whose_35 : decode cX9_whose 35 = .ok (.iload_n 1, 1) := by decide +kernel
theorem dX9_whose_36 : decode cX9_whose 36 = .ok (.aaload, 1) := by decide +kernel
theorem dX9_whose_37 : decode cX9_whose 37 = .ok (.iload_n 2, 1) := by decide +kernel
theorem dX9_whose_38 : decode cX9_whose 38 = .ok (.iaload, 1) := by decide +kernel
theorem dX9_whose_39 : decode cX9_whose 39 = .ok (.istore_n 3, 1) := by decide +kernel
theorem dX9_whose_40 : decode cX9_whose 40 = .ok (.iconst (-1), 1) := by decide +kernel
theorem dX9_whose_41 : decode cX9_whose 41 = .ok (.istore 4, 2) := by decide +kernel
theorem dX9_whose_43 : decode cX9_whose 43 = .ok (.iconst 0, 1) := by decide +kernel
theorem dX9_whose_44 : decode cX9_whose 44 = .ok (.istore 5, 2) := by decide +kernel
theorem dX9_whose_46 : decode cX9_whose 46 = .ok (.iload 5, 2) := by decide +kernel
theorem dX9_whose_48 : decode cX9_whose 48 = .ok (.aload_n 0, 1) := by decide +kernel
theorem dX9_whose_49 : decode cX9_whose 49 = .ok (.getfield 31, 3) := by decide +kernel
theorem dX9_whose_52 : decode cX9_whose 52 = .ok (.if_icmp .ge 55, 3) := by decide +kernel
theorem dX9_whose_55 : decode cX9_whose 55 = .ok (.aload_n 0, 1) := by decide +kernel
theorem dX9_whose_56 : decode cX9_whose 56 = .ok (.getfield 28, 3) := by decide +kernel
theorem dX9_whose_59 : decode cX9_whose 59 = .ok (.iload 5, 2) := by decide +kernel
theorem dX9_whose_61 : decode cX9_whose 61 = .ok (.iaload, 1) := by decide +kernel
theorem dX9_whose_62 : decode cX9_whose 62 = .ok (.iconst (-1), 1) := by decide +kernel
theorem dX9_whose_63 : decode cX9_whose 63 = .ok (.if_icmp .eq 38, 3) := by decide +kernel
theorem dX9_whose_66 : decode cX9_whose 66 = .ok (.iload 4, 2) := by decide +kernel
theorem dX9_whose_68 : decode cX9_whose 68 = .ok (.iconst (-1), 1) := by decide +kernel
theorem dX9_whose_69 : decode cX9_whose 69 = .ok (.if_icmp .eq 28, 3) := by decide +kernel
theorem dX9_whose_72 : decode cX9_whose 72 = .ok (.iload_n 3, 1) := by decide +kernel
theorem dX9_whose_73 : decode cX9_whose 73 = .ok (.aload_n 0, 1) := by decide +kernel
theorem dX9_whose_74 : decode cX9_whose 74 = .ok (.getfield 28, 3) := by decide +kernel
theorem dX9_whose_77 : decode cX9_whose 77 = .ok (.iload 5, 2) := by decide +kernel
theorem dX9_whose_79 : decode cX9_whose 79 = .ok (.iaload, 1) := by decide +kernel
theorem dX9_whose_80 : decode cX9_whose 80 = .ok (.invokestatic 207, 3) := by decide +kernel
theorem dX9_whose_83 : decode cX9_whose 83 = .ok (.iload_n 3, 1) := by decide +kernel
theorem dX9_whose_84 : decode cX9_whose 84 = .ok (.aload_n 0, 1) := by decide +kernel
theorem dX9_whose_85 : decode cX9_whose 85 = .ok (.getfield 28, 3) := by decide +kernel
theorem dX9_whose_88 : decode cX9_whose 88 = .ok (.iload 4, 2) := by decide +kernel
theorem dX9_whose_90 : decode cX9_whose 90 = .ok (.iaload, 1) := by decide +kernel
theorem dX9_whose_91 : decode cX9_whose 91 = .ok (.invokestatic 207, 3) := by decide +kernel
theorem dX9_whose_94 : decode cX9_whose 94 = .ok (.if_icmp .ge 7, 3) := by decide +kernel
theorem dX9_whose_97 : decode cX9_whose 97 = .ok (.iload 5, 2) := by decide +kernel
theorem dX9_whose_99 : decode cX9_whose 99 = .ok (.istore 4, 2) := by decide +kernel
theorem dX9_whose_101 : decode cX9_whose 101 = .ok (.iinc 5 1, 3) := by decide +kernel
theorem dX9_whose_104 : decode cX9_whose 104 = .ok (.goto (-58), 3) := by decide +kernel
theorem dX9_whose_107 : decode cX9_whose 107 = .ok (.iconst 0, 1) := by decide +kernel
theorem dX9_whose_108 : decode cX9_whose 108 = .ok (.istore 5, 2) := by decide +kernel
theorem dX9_whose_110 : decode cX9_whose 110 = .ok (.iload 5, 2) := by decide +kernel
theorem dX9_whose_112 : decode cX9_whose 112 = .ok (.aload_n 0, 1) := by decide +kernel
theorem dX9_whose_113 : decode cX9_whose 113 = .ok (.getfield 31, 3) := by decide +kernel
theorem dX9_whose_116 : decode cX9_whose 116 = .ok (.if_icmp .ge 66, 3) := by decide +kernel
theorem dX9_whose_119 : decode cX9_whose 119 = .ok (.iload 4, 2) := by decide +kernel
theorem dX9_whose_121 : decode cX9_whose 121 = .ok (.iconst (-1), 1) := by decide +kernel
theorem dX9_whose_122 : decode cX9_whose 122 = .ok (.if_icmp .eq 60, 3) := by decide +kernel
theorem dX9_whose_125 : decode cX9_whose 125 = .ok (.iload 5, 2) := by decide +kernel
theorem dX9_whose_127 : decode cX9_whose 127 = .ok (.iload 4, 2) := by decide +kernel
theorem dX9_whose_129 : decode cX9_whose 129 = .ok (.if_icmp .eq 47, 3) := by decide +kernel
theorem dX9_whose_132 : decode cX9_whose 132 = .ok (.aload_n 0, 1) := by decide +kernel
theorem dX9_whose_133 : decode cX9_whose 133 = .ok (.getfield 28, 3) := by decide +kernel
theorem dX9_whose_136 : decode cX9_whose 136 = .ok (.iload 5, 2) := by decide +kernel
theorem dX9_whose_138 : decode cX9_whose 138 = .ok (.iaload, 1) := by decide +kernel
theorem dX9_whose_139 : decode cX9_whose 139 = .ok (.iconst (-1), 1) := by decide +kernel
theorem dX9_whose_140 : decode cX9_whose 140 = .ok (.if_icmp .eq 36, 3) := by decide +kernel
theorem dX9_whose_143 : decode cX9_whose 143 = .ok (.iload_n 3, 1) := by decide +kernel
theorem dX9_whose_144 : decode cX9_whose 144 = .ok (.aload_n 0, 1) := by decide +kernel
theorem dX9_whose_145 : decode cX9_whose 145 = .ok (.getfield 28, 3) := by decide +kernel
theorem dX9_whose_148 : decode cX9_whose 148 = .ok (.iload 5, 2) := by decide +kernel
theorem dX9_whose_150 : decode cX9_whose 150 = .ok (.iaload, 1) := by decide +kernel
theorem dX9_whose_151 : decode cX9_whose 151 = .ok (.invokestatic 207, 3) := by decide +kernel
theorem dX9_whose_154 : decode cX9_whose 154 = .ok (.iload_n 3, 1) := by decide +kernel
theorem dX9_whose_155 : decode cX9_whose 155 = .ok (.aload_n 0, 1) := by decide +kernel
theorem dX9_whose_156 : decode cX9_whose 156 = .ok (.getfield 28, 3) := by decide +kernel
theorem dX9_whose_159 : decode cX9_whose 159 = .ok (.iload 4, 2) := by decide +kernel
theorem dX9_whose_161 : decode cX9_whose 161 = .ok (.iaload, 1) := by decide +kernel
theorem dX9_whose_162 : decode cX9_whose 162 = .ok (.invokestatic 207, 3) := by decide +kernel
theorem dX9_whose_165 : decode cX9_whose 165 = .ok (.isub, 1) := by decide +kernel
theorem dX9_whose_166 : decode cX9_whose 166 = .ok (.aload_n 0, 1) := by decide +kernel
theorem dX9_whose_167 : decode cX9_whose 167 = .ok (.getfield 98, 3) := by decide +kernel
theorem dX9_whose_170 : decode cX9_whose 170 = .ok (.if_icmp .ge 6, 3) := by decide +kernel
theorem dX9_whose_173 : decode cX9_whose 173 = .ok (.bipush (-2), 2) := by decide +kernel
theorem dX9_whose_175 : decode cX9_whose 175 = .ok (.ireturn, 1) := by decide +kernel
theorem dX9_whose_176 : decode cX9_whose 176 = .ok (.iinc 5 1, 3) := by decide +kernel
theorem dX9_whose_179 : decode cX9_whose 179 = .ok (.goto (-69), 3) := by decide +kernel
theorem dX9_whose_182 : decode cX9_whose 182 = .ok (.iload 4, 2) := by decide +kernel
theorem dX9_whose_184 : decode cX9_whose 184 = .ok (.ireturn, 1) := by decide +kernel
theorem dX9_told_0 : decode cX9_told 0 = .ok (.aload_n 0, 1) := by decide +kernel
theorem dX9_told_1 : decode cX9_told 1 = .ok (.iload_n 1, 1) := by decide +kernel
theorem dX9_told_2 : decode cX9_told 2 = .ok (.invokevirtual 157, 3) := by decide +kernel
theorem dX9_told_5 : decode cX9_told 5 = .ok (.ifCond .ne 5, 3) := by decide +kernel
theorem dX9_told_8 : decode cX9_told 8 = .ok (.iconst (-1), 1) := by decide +kernel
theorem dX9_told_9 : decode cX9_told 9 = .ok (.ireturn, 1) := by decide +kernel
theorem dX9_told_10 : decode cX9_told 10 = .ok (.iconst 0, 1) := by decide +kernel
theorem dX9_told_11 : decode cX9_told 11 = .ok (.istore_n 3, 1) := by decide +kernel
theorem dX9_told_12 : decode cX9_told 12 = .ok (.iload_n 2, 1) := by decide +kernel
theorem dX9_told_13 : decode cX9_told 13 = .ok (.tableswitch 130 0 5 #[39, 55, 62, 69, 76, 76], 39) := by decide +kernel
theorem dX9_told_52 : decode cX9_told 52 = .ok (.aload_n 0, 1) := by decide +kernel
theorem dX9_told_53 : decode cX9_told 53 = .ok (.getfield 53, 3) := by decide +kernel
theorem dX9_told_56 : decode cX9_told 56 = .ok (.iload_n 1, 1) := by decide +kernel
theorem dX9_told_57 : decode cX9_told 57 = .ok (.iaload, 1) := by decide +kernel
theorem dX9_told_58 : decode cX9_told 58 = .ok (.iconst (-1), 1) := by decide +kernel
theorem dX9_told_59 : decode cX9_told 59 = .ok (.if_icmp .ne 7, 3) := by decide +kernel
theorem dX9_told_62 : decode cX9_told 62 = .ok (.iconst 0, 1) := by decide +kernel
theorem dX9_told_63 : decode cX9_told 63 = .ok (.goto 4, 3) := by decide +kernel
theorem dX9_told_66 : decode cX9_told 66 = .ok (.iconst 1, 1) := by decide +kernel
theorem dX9_told_67 : decode cX9_told 67 = .ok (.ireturn, 1) := by decide +kernel
theorem dX9_told_68 : decode cX9_told 68 = .ok (.aload_n 0, 1) := by decide +kernel
theorem dX9_told_69 : decode cX9_told 69 = .ok (.getfield 47, 3) := by decide +kernel
theorem dX9_told_72 : decode cX9_told 72 = .ok (.iload_n 1, 1) := by decide +kernel
theorem dX9_told_73 : decode cX9_told 73 = .ok (.iaload, 1) := by decide +kernel
theorem dX9_told_74 : decode cX9_told 74 = .ok (.ireturn, 1) := by decide +kernel
theorem dX9_told_75 : decode cX9_told 75 = .ok (.aload_n 0, 1) := by decide +kernel
theorem dX9_told_76 : decode cX9_told 76 = .ok (.getfield 50, 3) := by decide +kernel
theorem dX9_told_79 : decode cX9_told 79 = .ok (.iload_n 1, 1) := by decide +kernel
theorem dX9_told_80 : decode cX9_told 80 = .ok (.iaload, 1) := by decide +kernel
theorem dX9_told_81 : decode cX9_told 81 = .ok (.ireturn, 1) := by decide +kernel
theorem dX9_told_82 : decode cX9_told 82 = .ok (.aload_n 0, 1) := by decide +kernel
theorem dX9_told_83 : decode cX9_told 83 = .ok (.getfield 53, 3) := by decide +kernel
theorem dX9_told_86 : decode cX9_told 86 = .ok (.iload_n 1, 1) := by decide +kernel
theorem dX9_told_87 : decode cX9_told 87 = .ok (.iaload, 1) := by decide +kernel
theorem dX9_told_88 : decode cX9_told 88 = .ok (.ireturn, 1) := by decide +kernel
theorem dX9_told_89 : decode cX9_told 89 = .ok (.iconst 0, 1) := by decide +kernel
theorem dX9_told_90 : decode cX9_told 90 = .ok (.istore 4, 2) := by decide +kernel
theorem dX9_told_92 : decode cX9_told 92 = .ok (.iload 4, 2) := by decide +kernel
theorem dX9_told_94 : decode cX9_told 94 = .ok (.aload_n 0, 1) := by decide +kernel
theorem dX9_told_95 : decode cX9_told 95 = .ok (.getfield 150, 3) := by decide +kernel
theorem dX9_told_98 : decode cX9_told 98 = .ok (.if_icmp .ge 43, 3) := by decide +kernel
theorem dX9_told_101 : decode cX9_told 101 = .ok (.iload_n 3, 1) := by decide +kernel
theorem dX9_told_102 : decode cX9_told 102 = .ok (.aload_n 0, 1) := by decide +kernel
theorem dX9_told_103 : decode cX9_told 103 = .ok (.getfield 85, 3) := by decide +kernel
theorem dX9_told_106 : decode cX9_told 106 = .ok (.iload 4, 2) := by decide +kernel
theorem dX9_told_108 : decode cX9_told 108 = .ok (.iaload, 1) := by decide +kernel
theorem dX9_told_109 : decode cX9_told 109 = .ok (.iload_n 1, 1) := by decide +kernel
theorem dX9_told_110 : decode cX9_told 110 = .ok (.if_icmp .ne 22, 3) := by decide +kernel
theorem dX9_told_113 : decode cX9_told 113 = .ok (.iload_n 2, 1) := by decide +kernel
theorem dX9_told_114 : decode cX9_told 114 = .ok (.iconst 4, 1) := by decide +kernel
theorem dX9_told_115 : decode cX9_told 115 = .ok (.if_icmp .eq 13, 3) := by decide +kernel
theorem dX9_told_118 : decode cX9_told 118 = .ok (.aload_n 0, 1) := by decide +kernel
theorem dX9_told_119 : decode cX9_told 119 = .ok (.getfield 94, 3) := by decide +kernel
theorem dX9_told_122 : decode cX9_told 122 = .ok (.iload 4, 2) := by decide +kernel
theorem dX9_told_124 : decode cX9_told 124 = .ok (.baload, 1) := by decide +kernel
theorem dX9_told_125 : decode cX9_told 125 = .ok (.ifCond .eq 7, 3) := by decide +kernel
theorem dX9_told_128 : decode cX9_told 128 = .ok (.iconst 1, 1) := by decide +kernel
theorem dX9_told_129 : decode cX9_told 129 = .ok (.goto 4, 3) := by decide +kernel
theorem dX9_told_132 : decode cX9_told 132 = .ok (.iconst 0, 1) := by decide +kernel
theorem dX9_told_133 : decode cX9_told 133 = .ok (.iadd, 1) := by decide +kernel
theorem dX9_told_134 : decode cX9_told 134 = .ok (.istore_n 3, 1) := by decide +kernel
theorem dX9_told_135 : decode cX9_told 135 = .ok (.iinc 4 1, 3) := by decide +kernel
theorem dX9_told_138 : decode cX9_told 138 = .ok (.goto (-46), 3) := by decide +kernel
theorem dX9_told_141 : decode cX9_told 141 = .ok (.iload_n 3, 1) := by decide +kernel
theorem dX9_told_142 : decode cX9_told 142 = .ok (.ireturn, 1) := by decide +kernel
theorem dX9_told_143 : decode cX9_told 143 = .ok (.iconst (-1), 1) := by decide +kernel
theorem dX9_told_144 : decode cX9_told 144 = .ok (.ireturn, 1) := by decide +kernel
theorem dX9_part_0 : decode cX9_part 0 = .ok (.aload_n 0, 1) := by decide +kernel
theorem dX9_part_1 : decode cX9_part 1 = .ok (.iload_n 1, 1) := by decide +kernel
theorem dX9_part_2 : decode cX9_part 2 = .ok (.invokevirtual 157, 3) := by decide +kernel
theorem dX9_part_5 : decode cX9_part 5 = .ok (.ifCond .eq 12, 3) := by decide +kernel
theorem dX9_part_8 : decode cX9_part 8 = .ok (.iload_n 2, 1) := by decide +kernel
theorem dX9_part_9 : decode cX9_part 9 = .ok (.iconst 0, 1) := by decide +kernel
theorem dX9_part_10 : decode cX9_part 10 = .ok (.iconst 4, 1) := by decide +kernel
theorem dX9_part_11 : decode cX9_part 11 = .ok (.invokestatic 113, 3) := by decide +kernel
theorem dX9_part_14 : decode cX9_part 14 = .ok (.ifCond .ne 5, 3) := by decide +kernel
theorem dX9_part_17 : decode cX9_part 17 = .ok (.iconst (-1), 1) := by decide +kernel
theorem dX9_part_18 : decode cX9_part 18 = .ok (.ireturn, 1) := by decide +kernel
theorem dX9_part_19 : decode cX9_part 19 = .ok (.iload_n 3, 1) := by decide +kernel
theorem dX9_part_20 : decode cX9_part 20 = .ok (.tableswitch 96 0 4 #[36, 45, 63, 72, 81], 36) := by decide +kernel
theorem dX9_part_56 : decode cX9_part 56 = .ok (.aload_n 0, 1) := by decide +kernel
theorem dX9_part_57 : decode cX9_part 57 = .ok (.getfield 67, 3) := by decide +kernel
theorem dX9_part_60 : decode cX9_part 60 = .ok (.iload_n 1, 1) := by decide +kernel
theorem dX9_part_61 : decode cX9_part 61 = .ok (.aaload, 1) := by decide +kernel
theorem dX9_part_62 : decode cX9_part 62 = .ok (.iload_n 2, 1) := by decide +kernel
theorem dX9_part_63 : decode cX9_part 63 = .ok (.iaload, 1) := by decide +kernel
theorem dX9_part_64 : decode cX9_part 64 = .ok (.ireturn, 1) := by decide +kernel
theorem dX9_part_65 : decode cX9_part 65 = .ok (.aload_n 0, 1) := by decide +kernel
theorem dX9_part_66 : decode cX9_part 66 = .ok (.getfield 64, 3) := by decide +kernel
theorem dX9_part_69 : decode cX9_part 69 = .ok (.iload_n 1, 1) := by decide +kernel
theorem dX9_part_70 : decode cX9_part 70 = .ok (.aaload, 1) := by decide +kernel
theorem dX9_part_71 : decode cX9_part 71 = .ok (.iload_n 2, 1) := by decide +kernel
theorem dX9_part_72 : decode cX9_part 72 = .ok (.iaload, 1) := by decide +kernel
theorem dX9_part_73 : decode cX9_part 73 = .ok (.aload_n 0, 1) := by decide +kernel
theorem dX9_part_74 : decode cX9_part 74 = .ok (.getfield 67, 3) := by decide +kernel
theorem dX9_part_77 : decode cX9_part 77 = .ok (.iload_n 1, 1) := by decide +kernel
theorem dX9_part_78 : decode cX9_part 78 = .ok (.aaload, 1) := by decide +kernel
theorem dX9_part_79 : decode cX9_part 79 = .ok (.iload_n 2, 1) := by decide +kernel
theorem dX9_part_80 : decode cX9_part 80 = .ok (.iaload, 1) := by decide +kernel
theorem dX9_part_81 : decode cX9_part 81 = .ok (.isub, 1) := by decide +kernel
theorem dX9_part_82 : decode cX9_part 82 = .ok (.ireturn, 1) := by decide +kernel
theorem dX9_part_83 : decode cX9_part 83 = .ok (.aload_n 0, 1) := by decide +kernel
theorem dX9_part_84 : decode cX9_part 84 = .ok (.getfield 70, 3) := by decide +kernel
theorem dX9_part_87 : decode cX9_part 87 = .ok (.iload_n 1, 1) := by decide +kernel
theorem dX9_part_88 : decode cX9_part 88 = .ok (.aaload, 1) := by decide +kernel
theorem dX9_part_89 : decode cX9_part 89 = .ok (.iload_n 2, 1) := by decide +kernel
theorem dX9_part_90 : decode cX9_part 90 = .ok (.iaload, 1) := by decide +kernel
theorem dX9_part_91 : decode cX9_part 91 = .ok (.ireturn, 1) := by decide +kernel
theorem dX9_part_92 : decode cX9_part 92 = .ok (.aload_n 0, 1) := by decide +kernel
theorem dX9_part_93 : decode cX9_part 93 = .ok (.getfield 73, 3) := by decide +kernel
theorem dX9_part_96 : decode cX9_part 96 = .ok (.iload_n 1, 1) := by decide +kernel
theorem dX9_part_97 : decode cX9_part 97 = .ok (.aaload, 1) := by decide +kernel
theorem dX9_part_98 : decode cX9_part 98 = .ok (.iload_n 2, 1) := by decide +kernel
theorem dX9_part_99 : decode cX9_part 99 = .ok (.iaload, 1) := by decide +kernel
theorem dX9_part_100 : decode cX9_part 100 = .ok (.ireturn, 1) := by decide +kernel
theorem dX9_part_101 : decode cX9_part 101 = .ok (.aload_n 0, 1) := by decide +kernel
theorem dX9_part_102 : decode cX9_part 102 = .ok (.iload_n 1, 1) := by decide +kernel
theorem dX9_part_103 : decode cX9_part 103 = .ok (.iload_n 2, 1) := by decide +kernel
theorem dX9_part_104 : decode cX9_part 104 = .ok (.invokevirtual 169, 3) := by decide +kernel
theorem dX9_part_107 : decode cX9_part 107 = .ok (.ifCond .eq 7, 3) := by decide +kernel
theorem dX9_part_110 : decode cX9_part 110 = .ok (.iconst 1, 1) := by decide +kernel
theorem dX9_part_111 : decode cX9_part 111 = .ok (.goto 4, 3) := by decide +kernel
theorem dX9_part_114 : decode cX9_part 114 = .ok (.iconst 0, 1) := by decide +kernel
theorem dX9_part_115 : decode cX9_part 115 = .ok (.ireturn, 1) := by decide +kernel
theorem dX9_part_116 : decode cX9_part 116 = .ok (.iconst (-1), 1) := by decide +kernel
theorem dX9_part_117 : decode cX9_part 117 = .ok (.ireturn, 1) := by decide +kernel
theorem dX9_due_0 : decode cX9_due 0 = .ok (.aload_n 0, 1) := by decide +kernel
theorem dX9_due_1 : decode cX9_due 1 = .ok (.iload_n 1, 1) := by decide +kernel
theorem dX9_due_2 : decode cX9_due 2 = .ok (.invokevirtual 123, 3) := by decide +kernel
theorem dX9_due_5 : decode cX9_due 5 = .ok (.ifCond .eq 12, 3) := by decide +kernel
theorem dX9_due_8 : decode cX9_due 8 = .ok (.aload_n 0, 1) := by decide +kernel
theorem dX9_due_9 : decode cX9_due 9 = .ok (.getfield 41, 3) := by decide +kernel
theorem dX9_due_12 : decode cX9_due 12 = .ok (.iload_n 1, 1) := by decide +kernel
theorem dX9_due_13 : decode cX9_due 13 = .ok (.iaload, 1) := by decide +kernel
theorem dX9_due_14 : decode cX9_due 14 = .ok (.goto 4, 3) := by decide +kernel
theorem dX9_due_17 : decode cX9_due 17 = .ok (.iconst (-1), 1) := by decide +kernel
theorem dX9_due_18 : decode cX9_due 18 = .ok (.ireturn, 1) := by decide +kernel
theorem dX9_count_0 : decode cX9_count 0 = .ok (.iconst 0, 1) := by decide +kernel
theorem dX9_count_1 : decode cX9_count 1 = .ok (.istore_n 2, 1) := by decide +kernel
theorem dX9_count_2 : decode cX9_count 2 = .ok (.iload_n 1, 1) := by decide +kernel
theorem dX9_count_3 : decode cX9_count 3 = .ok (.tableswitch 125 0 8 #[49, 54, 59, 64, 69, 105, 110, 115, 120], 49) := by decide +kernel
theorem dX9_count_52 : decode cX9_count 52 = .ok (.aload_n 0, 1) := by decide +kernel
theorem dX9_count_53 : decode cX9_count 53 = .ok (.getfield 128, 3) := by decide +kernel
theorem dX9_count_56 : decode cX9_count 56 = .ok (.ireturn, 1) := by decide +kernel
theorem dX9_count_57 : decode cX9_count 57 = .ok (.aload_n 0, 1) := by decide +kernel
theorem dX9_count_58 : decode cX9_count 58 = .ok (.getfield 31, 3) := by decide +kernel
