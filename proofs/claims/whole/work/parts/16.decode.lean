theorem dX9_listed_60 : decode cX9_listed 60 = .ok (.iinc 4 1, 3) := by decide +kernel
theorem dX9_listed_63 : decode cX9_listed 63 = .ok (.goto (-58), 3) := by decide +kernel
theorem dX9_listed_66 : decode cX9_listed 66 = .ok (.iload_n 3, 1) := by decide +kernel
theorem dX9_listed_67 : decode cX9_listed 67 = .ok (.iconst (-1), 1) := by decide +kernel
theorem dX9_listed_68 : decode cX9_listed 68 = .ok (.if_icmp .ne 7, 3) := by decide +kernel
theorem dX9_listed_71 : decode cX9_listed 71 = .ok (.iconst 0, 1) := by decide +kernel
theorem dX9_listed_72 : decode cX9_listed 72 = .ok (.goto 9, 3) := by decide +kernel
theorem dX9_listed_75 : decode cX9_listed 75 = .ok (.aload_n 0, 1) := by decide +kernel
theorem dX9_listed_76 : decode cX9_listed 76 = .ok (.getfield 16, 3) := by decide +kernel
theorem dX9_listed_79 : decode cX9_listed 79 = .ok (.iload_n 3, 1) := by decide +kernel
theorem dX9_listed_80 : decode cX9_listed 80 = .ok (.iaload, 1) := by decide +kernel
theorem dX9_listed_81 : decode cX9_listed 81 = .ok (.ireturn, 1) := by decide +kernel
theorem dX9_dry_0 : decode cX9_dry 0 = .ok (.iload_n 1, 1) := by decide +kernel
theorem dX9_dry_1 : decode cX9_dry 1 = .ok (.iconst 0, 1) := by decide +kernel
theorem dX9_dry_2 : decode cX9_dry 2 = .ok (.iconst 4, 1) := by decide +kernel
theorem dX9_dry_3 : decode cX9_dry 3 = .ok (.invokestatic 113, 3) := by decide +kernel
theorem dX9_dry_6 : decode cX9_dry 6 = .ok (.ifCond .eq 13, 3) := by decide +kernel
theorem dX9_dry_9 : decode cX9_dry 9 = .ok (.iload_n 2, 1) := by decide +kernel
theorem dX9_dry_10 : decode cX9_dry 10 = .ok (.iconst 0, 1) := by decide +kernel
theorem dX9_dry_11 : decode cX9_dry 11 = .ok (.bipush 60, 2) := by decide +kernel
theorem dX9_dry_13 : decode cX9_dry 13 = .ok (.invokestatic 113, 3) := by decide +kernel
theorem dX9_dry_16 : decode cX9_dry 16 = .ok (.ifCond .ne 5, 3) := by decide +kernel
theorem dX9_dry_19 : decode cX9_dry 19 = .ok (.iconst 0, 1) := by decide +kernel
theorem dX9_dry_20 : decode cX9_dry 20 = .ok (.ireturn, 1) := by decide +kernel
theorem dX9_dry_21 : decode cX9_dry 21 = .ok (.aload_n 0, 1) := by decide +kernel
theorem dX9_dry_22 : decode cX9_dry 22 = .ok (.getfield 19, 3) := by decide +kernel
theorem dX9_dry_25 : decode cX9_dry 25 = .ok (.iload_n 1, 1) := by decide +kernel
theorem dX9_dry_26 : decode cX9_dry 26 = .ok (.iload_n 2, 1) := by decide +kernel
theorem dX9_dry_27 : decode cX9_dry 27 = .ok (.iastore, 1) := by decide +kernel
theorem dX9_dry_28 : decode cX9_dry 28 = .ok (.iconst 1, 1) := by decide +kernel
theorem dX9_dry_29 : decode cX9_dry 29 = .ok (.ireturn, 1) := by decide +kernel
theorem dX9_hand_0 : decode cX9_hand 0 = .ok (.aload_n 0, 1) := by decide +kernel
theorem dX9_hand_1 : decode cX9_hand 1 = .ok (.getfield 31, 3) := by decide +kernel
theorem dX9_hand_4 : decode cX9_hand 4 = .ok (.bipush 7, 2) := by decide +kernel
theorem dX9_hand_6 : decode cX9_hand 6 = .ok (.if_icmp .ne 5, 3) := by decide +kernel
theorem dX9_hand_9 : decode cX9_hand 9 = .ok (.iconst (-1), 1) := by decide +kernel
theorem dX9_hand_10 : decode cX9_hand 10 = .ok (.ireturn, 1) := by decide +kernel
theorem dX9_hand_11 : decode cX9_hand 11 = .ok (.aload_n 0, 1) := by decide +kernel
theorem dX9_hand_12 : decode cX9_hand 12 = .ok (.dup, 1) := by decide +kernel
theorem dX9_hand_13 : decode cX9_hand 13 = .ok (.getfield 31, 3) := by decide +kernel
theorem dX9_hand_16 : decode cX9_hand 16 = .ok (.iconst 1, 1) := by decide +kernel
theorem dX9_hand_17 : decode cX9_hand 17 = .ok (.iadd, 1) := by decide +kernel
theorem dX9_hand_18 : decode cX9_hand 18 = .ok (.putfield 31, 3) := by decide +kernel
theorem dX9_hand_21 : decode cX9_hand 21 = .ok (.aload_n 0, 1) := by decide +kernel
theorem dX9_hand_22 : decode cX9_hand 22 = .ok (.getfield 31, 3) := by decide +kernel
theorem dX9_hand_25 : decode cX9_hand 25 = .ok (.iconst 1, 1) := by decide +kernel
theorem dX9_hand_26 : decode cX9_hand 26 = .ok (.isub, 1) := by decide +kernel
theorem dX9_hand_27 : decode cX9_hand 27 = .ok (.ireturn, 1) := by decide +kernel
theorem dX9_sitter_0 : decode cX9_sitter 0 = .ok (.iload_n 1, 1) := by decide +kernel
theorem dX9_sitter_1 : decode cX9_sitter 1 = .ok (.iconst 0, 1) := by decide +kernel
theorem dX9_sitter_2 : decode cX9_sitter 2 = .ok (.iconst 5, 1) := by decide +kernel
theorem dX9_sitter_3 : decode cX9_sitter 3 = .ok (.invokestatic 113, 3) := by decide +kernel
theorem dX9_sitter_6 : decode cX9_sitter 6 = .ok (.ifCond .eq 21, 3) := by decide +kernel
theorem dX9_sitter_9 : decode cX9_sitter 9 = .ok (.iload_n 2, 1) := by decide +kernel
theorem dX9_sitter_10 : decode cX9_sitter 10 = .ok (.iload_n 1, 1) := by decide +kernel
theorem dX9_sitter_11 : decode cX9_sitter 11 = .ok (.iconst 5, 1) := by decide +kernel
theorem dX9_sitter_12 : decode cX9_sitter 12 = .ok (.invokestatic 113, 3) := by decide +kernel
theorem dX9_sitter_15 : decode cX9_sitter 15 = .ok (.ifCond .eq 12, 3) := by decide +kernel
theorem dX9_sitter_18 : decode cX9_sitter 18 = .ok (.aload_n 0, 1) := by decide +kernel
theorem dX9_sitter_19 : decode cX9_sitter 19 = .ok (.getfield 117, 3) := by decide +kernel
theorem dX9_sitter_22 : decode cX9_sitter 22 = .ok (.bipush 20, 2) := by decide +kernel
theorem dX9_sitter_24 : decode cX9_sitter 24 = .ok (.if_icmp .ne 5, 3) := by decide +kernel
theorem dX9_sitter_27 : decode cX9_sitter 27 = .ok (.iconst (-1), 1) := by decide +kernel
theorem dX9_sitter_28 : decode cX9_sitter 28 = .ok (.ireturn, 1) := by decide +kernel
theorem dX9_sitter_29 : decode cX9_sitter 29 = .ok (.aload_n 0, 1) := by decide +kernel
theorem dX9_sitter_30 : decode cX9_sitter 30 = .ok (.getfield 35, 3) := by decide +kernel
theorem dX9_sitter_33 : decode cX9_sitter 33 = .ok (.aload_n 0, 1) := by decide +kernel
theorem dX9_sitter_34 : decode cX9_sitter 34 = .ok (.getfield 117, 3) := by decide +kernel
theorem dX9_sitter_37 : decode cX9_sitter 37 = .ok (.iload_n 1, 1) := by decide +kernel
theorem dX9_sitter_38 : decode cX9_sitter 38 = .ok (.iastore, 1) := by decide +kernel
theorem dX9_sitter_39 : decode cX9_sitter 39 = .ok (.aload_n 0, 1) := by decide +kernel
theorem dX9_sitter_40 : decode cX9_sitter 40 = .ok (.getfield 38, 3) := by decide +kernel
theorem dX9_sitter_43 : decode cX9_sitter 43 = .ok (.aload_n 0, 1) := by decide +kernel
theorem dX9_sitter_44 : decode cX9_sitter 44 = .ok (.getfield 117, 3) := by decide +kernel
theorem dX9_sitter_47 : decode cX9_sitter 47 = .ok (.iload_n 2, 1) := by decide +kernel
theorem dX9_sitter_48 : decode cX9_sitter 48 = .ok (.iastore, 1) := by decide +kernel
theorem dX9_sitter_49 : decode cX9_sitter 49 = .ok (.aload_n 0, 1) := by decide +kernel
theorem dX9_sitter_50 : decode cX9_sitter 50 = .ok (.dup, 1) := by decide +kernel
theorem dX9_sitter_51 : decode cX9_sitter 51 = .ok (.getfield 117, 3) := by decide +kernel
theorem dX9_sitter_54 : decode cX9_sitter 54 = .ok (.iconst 1, 1) := by decide +kernel
theorem dX9_sitter_55 : decode cX9_sitter 55 = .ok (.iadd, 1) := by decide +kernel
theorem dX9_sitter_56 : decode cX9_sitter 56 = .ok (.putfield 117, 3) := by decide +kernel
theorem dX9_sitter_59 : decode cX9_sitter 59 = .ok (.aload_n 0, 1) := by decide +kernel
theorem dX9_sitter_60 : decode cX9_sitter 60 = .ok (.getfield 117, 3) := by decide +kernel
theorem dX9_sitter_63 : decode cX9_sitter 63 = .ok (.iconst 1, 1) := by decide +kernel
theorem dX9_sitter_64 : decode cX9_sitter 64 = .ok (.isub, 1) := by decide +kernel
theorem dX9_sitter_65 : decode cX9_sitter 65 = .ok (.ireturn, 1) := by decide +kernel
theorem dX9_picture_0 : decode cX9_picture 0 = .ok (.aload_n 0, 1) := by decide +kernel
theorem dX9_picture_1 : decode cX9_picture 1 = .ok (.iload_n 1, 1) := by decide +kernel
theorem dX9_picture_2 : decode cX9_picture 2 = .ok (.invokevirtual 123, 3) := by decide +kernel
theorem dX9_picture_5 : decode cX9_picture 5 = .ok (.ifCond .eq 43, 3) := by decide +kernel
theorem dX9_picture_8 : decode cX9_picture 8 = .ok (.iload_n 2, 1) := by decide +kernel
theorem dX9_picture_9 : decode cX9_picture 9 = .ok (.iconst 0, 1) := by decide +kernel
theorem dX9_picture_10 : decode cX9_picture 10 = .ok (.iconst 3, 1) := by decide +kernel
theorem dX9_picture_11 : decode cX9_picture 11 = .ok (.invokestatic 113, 3) := by decide +kernel
theorem dX9_picture_14 : decode cX9_picture 14 = .ok (.ifCond .eq 34, 3) := by decide +kernel
theorem dX9_picture_17 : decode cX9_picture 17 = .ok (.iload_n 3, 1) := by decide +kernel
theorem dX9_picture_18 : decode cX9_picture 18 = .ok (.sipush 10000, 3) := by decide +kernel
theorem dX9_picture_21 : decode cX9_picture 21 = .ok (.ldc 127, 2) := by decide +kernel
theorem dX9_picture_23 : decode cX9_picture 23 = .ok (.invokestatic 113, 3) := by decide +kernel
theorem dX9_picture_26 : decode cX9_picture 26 = .ok (.ifCond .eq 22, 3) := by decide +kernel
theorem dX9_picture_29 : decode cX9_picture 29 = .ok (.iload 4, 2) := by decide +kernel
theorem dX9_picture_31 : decode cX9_picture 31 = .ok (.iconst (-1), 1) := by decide +kernel
theorem dX9_picture_32 : decode cX9_picture 32 = .ok (.iconst 4, 1) := by decide +kernel
theorem dX9_picture_33 : decode cX9_picture 33 = .ok (.invokestatic 113, 3) := by decide +kernel
theorem dX9_picture_36 : decode cX9_picture 36 = .ok (.ifCond .eq 12, 3) := by decide +kernel
theorem dX9_picture_39 : decode cX9_picture 39 = .ok (.aload_n 0, 1) := by decide +kernel
theorem dX9_picture_40 : decode cX9_picture 40 = .ok (.getfield 110, 3) := by decide +kernel
theorem dX9_picture_43 : decode cX9_picture 43 = .ok (.bipush 40, 2) := by decide +kernel
theorem dX9_picture_45 : decode cX9_picture 45 = .ok (.if_icmp .ne 5, 3) := by decide +kernel
theorem dX9_picture_48 : decode cX9_picture 48 = .ok (.iconst (-1), 1) := by decide +kernel
theorem dX9_picture_49 : decode cX9_picture 49 = .ok (.ireturn, 1) := by decide +kernel
theorem dX9_picture_50 : decode cX9_picture 50 = .ok (.iload_n 3, 1) := by decide +kernel
theorem dX9_picture_51 : decode cX9_picture 51 = .ok (.istore 5, 2) := by decide +kernel
theorem dX9_picture_53 : decode cX9_picture 53 = .ok (.iconst 1, 1) := by decide +kernel
theorem dX9_picture_54 : decode cX9_picture 54 = .ok (.istore 6, 2) := by decide +kernel
theorem dX9_picture_56 : decode cX9_picture 56 = .ok (.iconst 4, 1) := by decide +kernel
theorem dX9_picture_57 : decode cX9_picture 57 = .ok (.istore 7, 2) := by decide +kernel
theorem dX9_picture_59 : decode cX9_picture 59 = .ok (.iload 7, 2) := by decide +kernel
theorem dX9_picture_61 : decode cX9_picture 61 = .ok (.ifCond .lt 54, 3) := by decide +kernel
theorem dX9_picture_64 : decode cX9_picture 64 = .ok (.iload 6, 2) := by decide +kernel
theorem dX9_picture_66 : decode cX9_picture 66 = .ok (.ifCond .eq 16, 3) := by decide +kernel
theorem dX9_picture_69 : decode cX9_picture 69 = .ok (.iload 5, 2) := by decide +kernel
theorem dX9_picture_71 : decode cX9_picture 71 = .ok (.bipush 10, 2) := by decide +kernel
theorem dX9_picture_73 : decode cX9_picture 73 = .ok (.irem, 1) := by decide +kernel
theorem dX9_picture_74 : decode cX9_picture 74 = .ok (.iconst 3, 1) := by decide +kernel
theorem dX9_picture_75 : decode cX9_picture 75 = .ok (.if_icmp .gt 7, 3) := by decide +kernel
theorem dX9_picture_78 : decode cX9_picture 78 = .ok (.iconst 1, 1) := by decide +kernel
theorem dX9_picture_79 : decode cX9_picture 79 = .ok (.goto 4, 3) := by decide +kernel
theorem dX9_picture_82 : decode cX9_picture 82 = .ok (.iconst 0, 1) := by decide +kernel
theorem dX9_picture_83 : decode cX9_picture 83 = .ok (.istore 6, 2) := by decide +kernel
theorem dX9_picture_85 : decode cX9_picture 85 = .ok (.aload_n 0, 1) := by decide +kernel
theorem dX9_picture_86 : decode cX9_picture 86 = .ok (.getfield 64, 3) := by decide +kernel
theorem dX9_picture_89 : decode cX9_picture 89 = .ok (.aload_n 0, 1) := by decide +kernel
theorem dX9_picture_90 : decode cX9_picture 90 = .ok (.getfield 110, 3) := by decide +kernel
theorem dX9_picture_93 : decode cX9_picture 93 = .ok (.aaload, 1) := by decide +kernel
theorem dX9_picture_94 : decode cX9_picture 94 = .ok (.iload 7, 2) := by decide +kernel
theorem dX9_picture_96 : decode cX9_picture 96 = .ok (.iload 5, 2) := by decide +kernel
theorem dX9_picture_98 : decode cX9_picture 98 = .ok (.bipush 10, 2) := by decide +kernel
theorem dX9_picture_100 : decode cX9_picture 100 = .ok (.irem, 1) := by decide +kernel
theorem dX9_picture_101 : decode cX9_picture 101 = .ok (.iastore, 1) := by decide +kernel
theorem dX9_picture_102 : decode cX9_picture 102 = .ok (.iload 5, 2) := by decide +kernel
theorem dX9_picture_104 : decode cX9_picture 104 = .ok (.bipush 10, 2) := by decide +kernel
theorem dX9_picture_106 : decode cX9_picture 106 = .ok (.idiv, 1) := by decide +kernel
theorem dX9_picture_107 : decode cX9_picture 107 = .ok (.istore 5, 2) := by decide +kernel
theorem dX9_picture_109 : decode cX9_picture 109 = .ok (.iinc 7 (-1), 3) := by decide +kernel
theorem dX9_picture_112 : decode cX9_picture 112 = .ok (.goto (-53), 3) := by decide +kernel
theorem dX9_picture_115 : decode cX9_picture 115 = .ok (.iload 6, 2) := by decide +kernel
theorem dX9_picture_117 : decode cX9_picture 117 = .ok (.ifCond .ne 5, 3) := by decide +kernel
theorem dX9_picture_120 : decode cX9_picture 120 = .ok (.iconst (-1), 1) := by decide +kernel
theorem dX9_picture_121 : decode cX9_picture 121 = .ok (.ireturn, 1) := by decide +kernel
theorem dX9_picture_122 : decode cX9_picture 122 = .ok (.aload_n 0, 1) := by decide +kernel
theorem dX9_picture_123 : decode cX9_picture 123 = .ok (.getfield 110, 3) := by decide +kernel
theorem dX9_picture_126 : decode cX9_picture 126 = .ok (.istore 7, 2) := by decide +kernel
theorem dX9_picture_128 : decode cX9_picture 128 = .ok (.aload_n 0, 1) := by decide +kernel
theorem dX9_picture_129 : decode cX9_picture 129 = .ok (.getfield 44, 3) := by decide +kernel
theorem dX9_picture_132 : decode cX9_picture 132 = .ok (.iload 7, 2) := by decide +kernel
theorem dX9_picture_134 : decode cX9_picture 134 = .ok (.iload_n 1, 1) := by decide +kernel
theorem dX9_picture_135 : decode cX9_picture 135 = .ok (.iastore, 1) := by decide +kernel
theorem dX9_picture_136 : decode cX9_picture 136 = .ok (.aload_n 0, 1) := by decide +kernel
theorem dX9_picture_137 : decode cX9_picture 137 = .ok (.getfield 56, 3) := by decide +kernel
theorem dX9_picture_140 : decode cX9_picture 140 = .ok (.iload 7, 2) := by decide +kernel
theorem dX9_picture_142 : decode cX9_picture 142 = .ok (.iload 4, 2) := by decide +kernel
theorem dX9_picture_144 : decode cX9_picture 144 = .ok (.iastore, 1) := by decide +kernel
theorem dX9_picture_145 : decode cX9_picture 145 = .ok (.aload_n 0, 1) := by decide +kernel
theorem dX9_picture_146 : decode cX9_picture 146 = .ok (.getfield 50, 3) := by decide +kernel
theorem dX9_picture_149 : decode cX9_picture 149 = .ok (.iload 7, 2) := by decide +kernel
theorem dX9_picture_151 : decode cX9_picture 151 = .ok (.aload_n 0, 1) := by decide +kernel
theorem dX9_picture_152 : decode cX9_picture 152 = .ok (.getfield 128, 3) := by decide +kernel
theorem dX9_picture_155 : decode cX9_picture 155 = .ok (.iastore, 1) := by decide +kernel
theorem dX9_picture_156 : decode cX9_picture 156 = .ok (.aload_n 0, 1) := by decide +kernel
theorem dX9_picture_157 : decode cX9_picture 157 = .ok (.getfield 53, 3) := by decide +kernel
theorem dX9_picture_160 : decode cX9_picture 160 = .ok (.iload 7, 2) := by decide +kernel
theorem dX9_picture_162 : decode cX9_picture 162 = .ok (.iconst (-1), 1) := by decide +kernel
theorem dX9_picture_163 : decode cX9_picture 163 = .ok (.iastore, 1) := by decide +kernel
theorem dX9_picture_164 : decode cX9_picture 164 = .ok (.aload_n 0, 1) := by decide +kernel
theorem dX9_picture_165 : decode cX9_picture 165 = .ok (.getfield 59, 3) := by decide +kernel
theorem dX9_picture_168 : decode cX9_picture 168 = .ok (.iload 7, 2) := by decide +kernel
theorem dX9_picture_170 : decode cX9_picture 170 = .ok (.iconst (-1), 1) := by decide +kernel
theorem dX9_picture_171 : decode cX9_picture 171 = .ok (.iastore, 1) := by decide +kernel
theorem dX9_picture_172 : decode cX9_picture 172 = .ok (.iconst 0, 1) := by decide +kernel
theorem dX9_picture_173 : decode cX9_picture 173 = .ok (.istore 8, 2) := by decide +kernel
theorem dX9_picture_175 : decode cX9_picture 175 = .ok (.iload 8, 2) := by decide +kernel
theorem dX9_picture_177 : decode cX9_picture 177 = .ok (.iconst 5, 1) := by decide +kernel
theorem dX9_picture_178 : decode cX9_picture 178 = .ok (.if_icmp .ge 42, 3) := by decide +kernel
theorem dX9_picture_181 : decode cX9_picture 181 = .ok (.aload_n 0, 1) := by decide +kernel
theorem dX9_picture_182 : decode cX9_picture 182 = .ok (.getfield 70, 3) := by decide +kernel
theorem dX9_picture_185 : decode cX9_picture 185 = .ok (.iload 7, 2) := by decide +kernel
theorem dX9_picture_187 : decode cX9_picture 187 = .ok (.aaload, 1) := by decide +kernel
theorem dX9_picture_188 : decode cX9_picture 188 = .ok (.iload 8, 2) := by decide +kernel
theorem dX9_picture_190 : decode cX9_picture 190 = .ok (.iconst (-1), 1) := by decide +kernel
theorem dX9_picture_191 : decode cX9_picture 191 = .ok (.iastore, 1) := by decide +kernel
theorem dX9_picture_192 : decode cX9_picture 192 = .ok (.aload_n 0, 1) := by decide +kernel
theorem dX9_picture_193 : decode cX9_picture 193 = .ok (.getfield 73, 3) := by decide +kernel
theorem dX9_picture_196 : decode cX9_picture 196 = .ok (.iload 7, 2) := by decide +kernel
theorem dX9_picture_198 : decode cX9_picture 198 = .ok (.aaload, 1) := by decide +kernel
theorem dX9_picture_199 : decode cX9_picture 199 = .ok (.iload 8, 2) := by decide +kernel
theorem dX9_picture_201 : decode cX9_picture 201 = .ok (.iconst (-1), 1) := by decide +kernel
theorem dX9_picture_202 : decode cX9_picture 202 = .ok (.iastore, 1) := by decide +kernel
theorem dX9_picture_203 : decode cX9_picture 203 = .ok (.aload_n 0, 1) := by decide +kernel
theorem dX9_picture_204 : decode cX9_picture 204 = .ok (.getfield 76, 3) := by decide +kernel
theorem dX9_picture_207 : decode cX9_picture 207 = .ok (.iload 7, 2) := by decide +kernel
theorem dX9_picture_209 : decode cX9_picture 209 = .ok (.aaload, 1) := by decide +kernel
theorem dX9_picture_210 : decode cX9_picture 210 = .ok (.iload 8, 2) := by decide +kernel
theorem dX9_picture_212 : decode cX9_picture 212 = .ok (.iconst (-1), 1) := by decide +kernel
theorem dX9_picture_213 : decode cX9_picture 213 = .ok (.iastore, 1) := by decide +kernel
theorem dX9_picture_214 : decode cX9_picture 214 = .ok (.iinc 8 1, 3) := by decide +kernel
theorem dX9_picture_217 : decode cX9_picture 217 = .ok (.goto (-42), 3) := by decide +kernel
theorem dX9_picture_220 : decode cX9_picture 220 = .ok (.aload_n 0, 1) := by decide +kernel
theorem dX9_picture_221 : decode cX9_picture 221 = .ok (.getfield 47, 3) := by decide +kernel
theorem dX9_picture_224 : decode cX9_picture 224 = .ok (.iload 7, 2) := by decide +kernel
theorem dX9_picture_226 : decode cX9_picture 226 = .ok (.aload_n 0, 1) := by decide +kernel
theorem dX9_picture_227 : decode cX9_picture 227 = .ok (.iload_n 2, 1) := by decide +kernel
theorem dX9_picture_228 : decode cX9_picture 228 = .ok (.aload_n 0, 1) := by decide +kernel
theorem dX9_picture_229 : decode cX9_picture 229 = .ok (.getfield 128, 3) := by decide +kernel
theorem dX9_picture_232 : decode cX9_picture 232 = .ok (.sipush 365, 3) := by decide +kernel
theorem dX9_picture_235 : decode cX9_picture 235 = .ok (.idiv, 1) := by decide +kernel
theorem dX9_picture_236 : decode cX9_picture 236 = .ok (.invokevirtual 131, 3) := by decide +kernel
theorem dX9_picture_239 : decode cX9_picture 239 = .ok (.iastore, 1) := by decide +kernel
theorem dX9_picture_240 : decode cX9_picture 240 = .ok (.aload_n 0, 1) := by decide +kernel
theorem dX9_picture_241 : decode cX9_picture 241 = .ok (.dup, 1) := by decide +kernel
theorem dX9_picture_242 : decode cX9_picture 242 = .ok (.getfield 135, 3) := by decide +kernel
theorem dX9_picture_245 : decode cX9_picture 245 = .ok (.aload_n 0, 1) := by decide +kernel
theorem dX9_picture_246 : decode cX9_picture 246 = .ok (.getfield 47, 3) := by decide +kernel
theorem dX9_picture_249 : decode cX9_picture 249 = .ok (.iload 7, 2) := by decide +kernel
theorem dX9_picture_251 : decode cX9_picture 251 = .ok (.iaload, 1) := by decide +kernel
theorem dX9_picture_252 : decode cX9_picture 252 = .ok (.iadd, 1) := by decide +kernel
theorem dX9_picture_253 : decode cX9_picture 253 = .ok (.putfield 135, 3) := by decide +kernel
theorem dX9_picture_256 : decode cX9_picture 256 = .ok (.aload_n 0, 1) := by decide +kernel
theorem dX9_picture_257 : decode cX9_picture 257 = .ok (.getfield 41, 3) := by decide +kernel
theorem dX9_picture_260 : decode cX9_picture 260 = .ok (.iload_n 1, 1) := by decide +kernel
theorem dX9_picture_261 : decode cX9_picture 261 = .ok (.dup2, 1) := by decide +kernel
theorem dX9_picture_262 : decode cX9_picture 262 = .ok (.iaload, 1) := by decide +kernel
theorem dX9_picture_263 : decode cX9_picture 263 = .ok (.aload_n 0, 1) := by decide +kernel
theorem dX9_picture_264 : decode cX9_picture 264 = .ok (.getfield 47, 3) := by decide +kernel
theorem dX9_picture_267 : decode cX9_picture 267 = .ok (.iload 7, 2) := by decide +kernel
theorem dX9_picture_269 : decode cX9_picture 269 = .ok (.iaload, 1) := by decide +kernel
theorem dX9_picture_270 : decode cX9_picture 270 = .ok (.iconst 2, 1) := by decide +kernel
theorem dX9_picture_271 : decode cX9_picture 271 = .ok (.idiv, 1) := by decide +kernel
theorem dX9_picture_272 : decode cX9_picture 272 = .ok (.iadd, 1) := by decide +kernel
theorem dX9_picture_273 : decode cX9_picture 273 = .ok (.iastore, 1) := by decide +kernel
theorem dX9_picture_274 : decode cX9_picture 274 = .ok (.aload_n 0, 1) := by decide +kernel
theorem dX9_picture_275 : decode cX9_picture 275 = .ok (.dup, 1) := by decide +kernel
theorem dX9_picture_276 : decode cX9_picture 276 = .ok (.getfield 110, 3) := by decide +kernel
theorem dX9_picture_279 : decode cX9_picture 279 = .ok (.iconst 1, 1) := by decide +kernel
theorem dX9_picture_280 : decode cX9_picture 280 = .ok (.iadd, 1) := by decide +kernel
theorem dX9_picture_281 : decode cX9_picture 281 = .ok (.putfield 110, 3) := by decide +kernel
theorem dX9_picture_284 : decode cX9_picture 284 = .ok (.iload 7, 2) := by decide +kernel
theorem dX9_picture_286 : decode cX9_picture 286 = .ok (.ireturn, 1) := by decide +kernel
theorem dX9_go_0 : decode cX9_go 0 = .ok (.iload_n 1, 1) := by decide +kernel
theorem dX9_go_1 : decode cX9_go 1 = .ok (.iconst 0, 1) := by decide +kernel
theorem dX9_go_2 : decode cX9_go 2 = .ok (.sipush 1000, 3) := by decide +kernel
theorem dX9_go_5 : decode cX9_go 5 = .ok (.invokestatic 113, 3) := by decide +kernel
theorem dX9_go_8 : decode cX9_go 8 = .ok (.ifCond .ne 5, 3) := by decide +kernel
theorem dX9_go_11 : decode cX9_go 11 = .ok (.iconst (-1), 1) := by decide +kernel
theorem dX9_go_12 : decode cX9_go 12 = .ok (.ireturn, 1) := by decide +kernel
theorem dX9_go_13 : decode cX9_go 13 = .ok (.aload_n 0, 1) := by decide +kernel
theorem dX9_go_14 : decode cX9_go 14 = .ok (.sipush 20000, 3) := by decide +kernel
theorem dX9_go_17 : decode cX9_go 17 = .ok (.aload_n 0, 1) := by decide +kernel
theorem dX9_go_18 : decode cX9_go 18 = .ok (.getfield 128, 3) := by decide +kernel
theorem dX9_go_21 : decode cX9_go 21 = .ok (.iload_n 1, 1) := by decide +kernel
theorem dX9_go_22 : decode cX9_go 22 = .ok (.iadd, 1) := by decide +kernel
theorem dX9_go_23 : decode cX9_go 23 = .ok (.invokestatic 138, 3) := by decide +kernel
theorem dX9_go_26 : decode cX9_go 26 = .ok (.putfield 128, 3) := by decide +kernel
theorem dX9_go_29 : decode cX9_go 29 = .ok (.aload_n 0, 1) := by decide +kernel
theorem dX9_go_30 : decode cX9_go 30 = .ok (.getfield 128, 3) := by decide +kernel
theorem dX9_go_33 : decode cX9_go 33 = .ok (.ireturn, 1) := by decide +kernel
theorem dX9_lightOf_0 : decode cX9_lightOf 0 = .ok (.bipush 6, 2) := by decide +kernel
theorem dX9_lightOf_2 : decode cX9_lightOf 2 = .ok (.iload_n 0, 1) := by decide +kernel
theorem dX9_lightOf_3 : decode cX9_lightOf 3 = .ok (.sipush 365, 3) := by decide +kernel
theorem dX9_lightOf_6 : decode cX9_lightOf 6 = .ok (.irem, 1) := by decide +kernel
theorem dX9_lightOf_7 : decode cX9_lightOf 7 = .ok (.sipush 182, 3) := by decide +kernel
theorem dX9_lightOf_10 : decode cX9_lightOf 10 = .ok (.isub, 1) := by decide +kernel
theorem dX9_lightOf_11 : decode cX9_lightOf 11 = .ok (.invokestatic 143, 3) := by decide +kernel
theorem dX9_lightOf_14 : decode cX9_lightOf 14 = .ok (.bipush 46, 2) := by decide +kernel
theorem dX9_lightOf_16 : decode cX9_lightOf 16 = .ok (.idiv, 1) := by decide +kernel
theorem dX9_lightOf_17 : decode cX9_lightOf 17 = .ok (.isub, 1) := by decide +kernel
theorem dX9_lightOf_18 : decode cX9_lightOf 18 = .ok (.ireturn, 1) := by decide +kernel
theorem dX9_light_0 : decode cX9_light 0 = .ok (.iload_n 1, 1) := by decide +kernel
theorem dX9_light_1 : decode cX9_light 1 = .ok (.iconst 0, 1) := by decide +kernel
theorem dX9_light_2 : decode cX9_light 2 = .ok (.sipush 20000, 3) := by decide +kernel
theorem dX9_light_5 : decode cX9_light 5 = .ok (.invokestatic 113, 3) := by decide +kernel
theorem dX9_light_8 : decode cX9_light 8 = .ok (.ifCond .eq 10, 3) := by decide +kernel
theorem dX9_light_11 : decode cX9_light 11 = .ok (.iload_n 1, 1) := by decide +kernel
theorem dX9_light_12 : decode cX9_light 12 = .ok (.invokestatic 147, 3) := by decide +kernel
theorem dX9_light_15 : decode cX9_light 15 = .ok (.goto 4, 3) := by decide +kernel
theorem dX9_light_18 : decode cX9_light 18 = .ok (.iconst (-1), 1) := by decide +kernel
theorem dX9_light_19 : decode cX9_light 19 = .ok (.ireturn, 1) := by decide +kernel
theorem dX9_isFree_0 : decode cX9_isFree 0 = .ok (.iconst 0, 1) := by decide +kernel
theorem dX9_isFree_1 : decode cX9_isFree 1 = .ok (.istore_n 3, 1) := by decide +kernel
theorem dX9_isFree_2 : decode cX9_isFree 2 = .ok (.iload_n 3, 1) := by decide +kernel
theorem dX9_isFree_3 : decode cX9_isFree 3 = .ok (.aload_n 0, 1) := by decide +kernel
theorem dX9_isFree_4 : decode cX9_isFree 4 = .ok (.getfield 150, 3) := by decide +kernel
theorem dX9_isFree_7 : decode cX9_isFree 7 = .ok (.if_icmp .ge 31, 3) := by decide +kernel
theorem dX9_isFree_10 : decode cX9_isFree 10 = .ok (.aload_n 0, 1) := by decide +kernel
theorem dX9_isFree_11 : decode cX9_isFree 11 = .ok (.getfield 88, 3) := by decide +kernel
theorem dX9_isFree_14 : decode cX9_isFree 14 = .ok (.iload_n 3, 1) := by decide +kernel
theorem dX9_isFree_15 : decode cX9_isFree 15 = .ok (.iaload, 1) := by decide +kernel
theorem dX9_isFree_16 : decode cX9_isFree 16 = .ok (.iload_n 1, 1) := by decide +kernel
theorem dX9_isFree_17 : decode cX9_isFree 17 = .ok (.if_icmp .ne 15, 3) := by decide +kernel
theorem dX9_isFree_20 : decode cX9_isFree 20 = .ok (.aload_n 0, 1) := by decide +kernel
theorem dX9_isFree_21 : decode cX9_isFree 21 = .ok (.getfield 91, 3) := by decide +kernel
theorem dX9_isFree_24 : decode cX9_isFree 24 = .ok (.iload_n 3, 1) := by decide +kernel
theorem dX9_isFree_25 : decode cX9_isFree 25 = .ok (.iaload, 1) := by decide +kernel
theorem dX9_isFree_26 : decode cX9_isFree 26 = .ok (.iload_n 2, 1) := by decide +kernel
theorem dX9_isFree_27 : decode cX9_isFree 27 = .ok (.if_icmp .ne 5, 3) := by decide +kernel
theorem dX9_isFree_30 : decode cX9_isFree 30 = .ok (.iconst 0, 1) := by decide +kernel
theorem dX9_isFree_31 : decode cX9_isFree 31 = .ok (.ireturn, 1) := by decide +kernel
theorem dX9_isFree_32 : decode cX9_isFree 32 = .ok (.iinc 3 1, 3) := by decide +kernel
theorem dX9_isFree_35 : decode cX9_isFree 35 = .ok (.goto (-33), 3) := by decide +kernel
theorem dX9_isFree_38 : decode cX9_isFree 38 = .ok (.iconst 1, 1) := by decide +kernel
theorem dX9_isFree_39 : decode cX9_isFree 39 = .ok (.ireturn, 1) := by decide +kernel
theorem dX9_sits_0 : decode cX9_sits 0 = .ok (.iconst 0, 1) := by decide +kernel
theorem dX9_sits_1 : decode cX9_sits 1 = .ok (.istore_n 3, 1) := by decide +kernel
theorem dX9_sits_2 : decode cX9_sits 2 = .ok (.iload_n 3, 1) := by decide +kernel
theorem dX9_sits_3 : decode cX9_sits 3 = .ok (.aload_n 0, 1) := by decide +kernel
theorem dX9_sits_4 : decode cX9_sits 4 = .ok (.getfield 150, 3) := by decide +kernel
theorem dX9_sits_7 : decode cX9_sits 7 = .ok (.if_icmp .ge 36, 3) := by decide +kernel
theorem dX9_sits_10 : decode cX9_sits 10 = .ok (.aload_n 0, 1) := by decide +kernel
theorem dX9_sits_11 : decode cX9_sits 11 = .ok (.getfield 88, 3) := by decide +kernel
theorem dX9_sits_14 : decode cX9_sits 14 = .ok (.iload_n 3, 1) := by decide +kernel
theorem dX9_sits_15 : decode cX9_sits 15 = .ok (.iaload, 1) := by decide +kernel
theorem dX9_sits_16 : decode cX9_sits 16 = .ok (.iload_n 2, 1) := by decide +kernel
theorem dX9_sits_17 : decode cX9_sits 17 = .ok (.if_icmp .ne 20, 3) := by decide +kernel
theorem dX9_sits_20 : decode cX9_sits 20 = .ok (.aload_n 0, 1) := by decide +kernel
theorem dX9_sits_21 : decode cX9_sits 21 = .ok (.getfield 44, 3) := by decide +kernel
theorem dX9_sits_24 : decode cX9_sits 24 = .ok (.aload_n 0, 1) := by decide +kernel
theorem dX9_sits_25 : decode cX9_sits 25 = .ok (.getfield 85, 3) := by decide +kernel
theorem dX9_sits_28 : decode cX9_sits 28 = .ok (.iload_n 3, 1) := by decide +kernel
theorem dX9_sits_29 : decode cX9_sits 29 = .ok (.iaload, 1) := by decide +kernel
theorem dX9_sits_30 : decode cX9_sits 30 = .ok (.iaload, 1) := by decide +kernel
theorem dX9_sits_31 : decode cX9_sits 31 = .ok (.iload_n 1, 1) := by decide +kernel
theorem dX9_sits_32 : decode cX9_sits 32 = .ok (.if_icmp .ne 5, 3) := by decide +kernel
theorem dX9_sits_35 : decode cX9_sits 35 = .ok (.iconst 1, 1) := by decide +kernel
theorem dX9_sits_36 : decode cX9_sits 36 = .ok (.ireturn, 1) := by decide +kernel
theorem dX9_sits_37 : decode cX9_sits 37 = .ok (.iinc 3 1, 3) := by decide +kernel
theorem dX9_sits_40 : decode cX9_sits 40 = .ok (.goto (-38), 3) := by decide +kernel
theorem dX9_sits_43 : decode cX9_sits 43 = .ok (.iconst 0, 1) := by decide +kernel
theorem dX9_sits_44 : decode cX9_sits 44 = .ok (.ireturn, 1) := by decide +kernel
theorem dX9_couldBe_0 : decode cX9_couldBe 0 = .ok (.iload_n 3, 1) := by decide +kernel
theorem dX9_couldBe_1 : decode cX9_couldBe 1 = .ok (.iconst 0, 1) := by decide +kernel
theorem dX9_couldBe_2 : decode cX9_couldBe 2 = .ok (.iload_n 2, 1) := by decide +kernel
theorem dX9_couldBe_3 : decode cX9_couldBe 3 = .ok (.invokestatic 147, 3) := by decide +kernel
theorem dX9_couldBe_6 : decode cX9_couldBe 6 = .ok (.iconst 1, 1) := by decide +kernel
theorem dX9_couldBe_7 : decode cX9_couldBe 7 = .ok (.isub, 1) := by decide +kernel
theorem dX9_couldBe_8 : decode cX9_couldBe 8 = .ok (.invokestatic 113, 3) := by decide +kernel
theorem dX9_couldBe_11 : decode cX9_couldBe 11 = .ok (.ifCond .eq 45, 3) := by decide +kernel
theorem dX9_couldBe_14 : decode cX9_couldBe 14 = .ok (.iload_n 3, 1) := by decide +kernel
theorem dX9_couldBe_15 : decode cX9_couldBe 15 = .ok (.aload_n 0, 1) := by decide +kernel
theorem dX9_couldBe_16 : decode cX9_couldBe 16 = .ok (.getfield 35, 3) := by decide +kernel
theorem dX9_couldBe_19 : decode cX9_couldBe 19 = .ok (.aload_n 0, 1) := by decide +kernel
theorem dX9_couldBe_20 : decode cX9_couldBe 20 = .ok (.getfield 44, 3) := by decide +kernel
theorem dX9_couldBe_23 : decode cX9_couldBe 23 = .ok (.iload_n 1, 1) := by decide +kernel
theorem dX9_couldBe_24 : decode cX9_couldBe 24 = .ok (.iaload, 1) := by decide +kernel
theorem dX9_couldBe_25 : decode cX9_couldBe 25 = .ok (.iaload, 1) := by decide +kernel
theorem dX9_couldBe_26 : decode cX9_couldBe 26 = .ok (.aload_n 0, 1) := by decide +kernel
theorem dX9_couldBe_27 : decode cX9_couldBe 27 = .ok (.getfield 38, 3) := by decide +kernel
theorem dX9_couldBe_30 : decode cX9_couldBe 30 = .ok (.aload_n 0, 1) := by decide +kernel
theorem dX9_couldBe_31 : decode cX9_couldBe 31 = .ok (.getfield 44, 3) := by decide +kernel
theorem dX9_couldBe_34 : decode cX9_couldBe 34 = .ok (.iload_n 1, 1) := by decide +kernel
theorem dX9_couldBe_35 : decode cX9_couldBe 35 = .ok (.iaload, 1) := by decide +kernel
theorem dX9_couldBe_36 : decode cX9_couldBe 36 = .ok (.iaload, 1) := by decide +kernel
theorem dX9_couldBe_37 : decode cX9_couldBe 37 = .ok (.invokestatic 113, 3) := by decide +kernel
theorem dX9_couldBe_40 : decode cX9_couldBe 40 = .ok (.ifCond .eq 16, 3) := by decide +kernel
theorem dX9_couldBe_43 : decode cX9_couldBe 43 = .ok (.aload_n 0, 1) := by decide +kernel
theorem dX9_couldBe_44 : decode cX9_couldBe 44 = .ok (.iload_n 2, 1) := by decide +kernel
theorem dX9_couldBe_45 : decode cX9_couldBe 45 = .ok (.iload_n 3, 1) := by decide +kernel
theorem dX9_couldBe_46 : decode cX9_couldBe 46 = .ok (.invokevirtual 153, 3) := by decide +kernel
theorem dX9_couldBe_49 : decode cX9_couldBe 49 = .ok (.ifCond .eq 7, 3) := by decide +kernel
theorem dX9_couldBe_52 : decode cX9_couldBe 52 = .ok (.iconst 1, 1) := by decide +kernel
theorem dX9_couldBe_53 : decode cX9_couldBe 53 = .ok (.goto 4, 3) := by decide +kernel
theorem dX9_couldBe_56 : decode cX9_couldBe 56 = .ok (.iconst 0, 1) := by decide +kernel
theorem dX9_couldBe_57 : decode cX9_couldBe 57 = .ok (.ireturn, 1) := by decide +kernel
theorem dX9_book_0 : decode cX9_book 0 = .ok (.aload_n 0, 1) := by decide +kernel
theorem dX9_book_1 : decode cX9_book 1 = .ok (.iload_n 1, 1) := by decide +kernel
theorem dX9_book_2 : decode cX9_book 2 = .ok (.invokevirtual 157, 3) := by decide +kernel
theorem dX9_book_5 : decode cX9_book 5 = .ok (.ifCond .eq 61, 3) := by decide +kernel
theorem dX9_book_8 : decode cX9_book 8 = .ok (.aload_n 0, 1) := by decide +kernel
theorem dX9_book_9 : decode cX9_book 9 = .ok (.getfield 53, 3) := by decide +kernel
theorem dX9_book_12 : decode cX9_book 12 = .ok (.iload_n 1, 1) := by decide +kernel
theorem dX9_book_13 : decode cX9_book 13 = .ok (.iaload, 1) := by decide +kernel
theorem dX9_book_14 : decode cX9_book 14 = .ok (.iconst (-1), 1) := by decide +kernel
theorem dX9_book_15 : decode cX9_book 15 = .ok (.if_icmp .ne 51, 3) := by decide +kernel
theorem dX9_book_18 : decode cX9_book 18 = .ok (.iload_n 2, 1) := by decide +kernel
theorem dX9_book_19 : decode cX9_book 19 = .ok (.aload_n 0, 1) := by decide +kernel
theorem dX9_book_20 : decode cX9_book 20 = .ok (.getfield 128, 3) := by decide +kernel
theorem dX9_book_23 : decode cX9_book 23 = .ok (.sipush 20000, 3) := by decide +kernel
theorem dX9_book_26 : decode cX9_book 26 = .ok (.invokestatic 113, 3) := by decide +kernel
theorem dX9_book_29 : decode cX9_book 29 = .ok (.ifCond .eq 37, 3) := by decide +kernel
theorem dX9_book_32 : decode cX9_book 32 = .ok (.aload_n 0, 1) := by decide +kernel
theorem dX9_book_33 : decode cX9_book 33 = .ok (.iload_n 1, 1) := by decide +kernel
theorem dX9_book_34 : decode cX9_book 34 = .ok (.iload_n 2, 1) := by decide +kernel
theorem dX9_book_35 : decode cX9_book 35 = .ok (.iload_n 3, 1) := by decide +kernel
theorem dX9_book_36 : decode cX9_book 36 = .ok (.invokevirtual 160, 3) := by decide +kernel
theorem dX9_book_39 : decode cX9_book 39 = .ok (.ifCond .eq 27, 3) := by decide +kernel
theorem dX9_book_42 : decode cX9_book 42 = .ok (.aload_n 0, 1) := by decide +kernel
theorem dX9_book_43 : decode cX9_book 43 = .ok (.aload_n 0, 1) := by decide +kernel
theorem dX9_book_44 : decode cX9_book 44 = .ok (.getfield 44, 3) := by decide +kernel
theorem dX9_book_47 : decode cX9_book 47 = .ok (.iload_n 1, 1) := by decide +kernel
theorem dX9_book_48 : decode cX9_book 48 = .ok (.iaload, 1) := by decide +kernel
theorem dX9_book_49 : decode cX9_book 49 = .ok (.iload_n 2, 1) := by decide +kernel
theorem dX9_book_50 : decode cX9_book 50 = .ok (.invokevirtual 163, 3) := by decide +kernel
theorem dX9_book_53 : decode cX9_book 53 = .ok (.ifCond .ne 13, 3) := by decide +kernel
theorem dX9_book_56 : decode cX9_book 56 = .ok (.aload_n 0, 1) := by decide +kernel
theorem dX9_book_57 : decode cX9_book 57 = .ok (.getfield 150, 3) := by decide +kernel
theorem dX9_book_60 : decode cX9_book 60 = .ok (.sipush 200, 3) := by decide +kernel
theorem dX9_book_63 : decode cX9_book 63 = .ok (.if_icmp .ne 5, 3) := by decide +kernel
theorem dX9_book_66 : decode cX9_book 66 = .ok (.iconst 0, 1) := by decide +kernel
theorem dX9_book_67 : decode cX9_book 67 = .ok (.ireturn, 1) := by decide +kernel
theorem dX9_book_68 : decode cX9_book 68 = .ok (.aload_n 0, 1) := by decide +kernel
theorem dX9_book_69 : decode cX9_book 69 = .ok (.getfield 85, 3) := by decide +kernel
theorem dX9_book_72 : decode cX9_book 72 = .ok (.aload_n 0, 1) := by decide +kernel
theorem dX9_book_73 : decode cX9_book 73 = .ok (.getfield 150, 3) := by decide +kernel
theorem dX9_book_76 : decode cX9_book 76 = .ok (.iload_n 1, 1) := by decide +kernel
theorem dX9_book_77 : decode cX9_book 77 = .ok (.iastore, 1) := by decide +kernel
theorem dX9_book_78 : decode cX9_book 78 = .ok (.aload_n 0, 1) := by decide +kernel
theorem dX9_book_79 : decode cX9_book 79 = .ok (.getfield 88, 3) := by decide +kernel
theorem dX9_book_82 : decode cX9_book 82 = .ok (.aload_n 0, 1) := by decide +kernel
theorem dX9_book_83 : decode cX9_book 83 = .ok (.getfield 150, 3) := by decide +kernel
theorem dX9_book_86 : decode cX9_book 86 = .ok (.iload_n 2, 1) := by decide +kernel
theorem dX9_book_87 : decode cX9_book 87 = .ok (.iastore, 1) := by decide +kernel
theorem dX9_book_88 : decode cX9_book 88 = .ok (.aload_n 0, 1) := by decide +kernel
theorem dX9_book_89 : decode cX9_book 89 = .ok (.getfield 91, 3) := by decide +kernel
theorem dX9_book_92 : decode cX9_book 92 = .ok (.aload_n 0, 1) := by decide +kernel
theorem dX9_book_93 : decode cX9_book 93 = .ok (.getfield 150, 3) := by decide +kernel
theorem dX9_book_96 : decode cX9_book 96 = .ok (.iload_n 3, 1) := by decide +kernel
theorem dX9_book_97 : decode cX9_book 97 = .ok (.iastore, 1) := by decide +kernel
theorem dX9_book_98 : decode cX9_book 98 = .ok (.aload_n 0, 1) := by decide +kernel
theorem dX9_book_99 : decode cX9_book 99 = .ok (.getfield 94, 3) := by decide +kernel
theorem dX9_book_102 : decode cX9_book 102 = .ok (.aload_n 0, 1) := by decide +kernel
theorem dX9_book_103 : decode cX9_book 103 = .ok (.getfield 150, 3) := by decide +kernel
theorem dX9_book_106 : decode cX9_book 106 = .ok (.iconst 0, 1) := by decide +kernel
theorem dX9_book_107 : decode cX9_book 107 = .ok (.bastore, 1) := by decide +kernel
theorem dX9_book_108 : decode cX9_book 108 = .ok (.aload_n 0, 1) := by decide +kernel
theorem dX9_book_109 : decode cX9_book 109 = .ok (.dup, 1) := by decide +kernel
theorem dX9_book_110 : decode cX9_book 110 = .ok (.getfield 150, 3) := by decide +kernel
theorem dX9_book_113 : decode cX9_book 113 = .ok (.iconst 1, 1) := by decide +kernel
theorem dX9_book_114 : decode cX9_book 114 = .ok (.iadd, 1) := by decide +kernel
theorem dX9_book_115 : decode cX9_book 115 = .ok (.putfield 150, 3) := by decide +kernel
theorem dX9_book_118 : decode cX9_book 118 = .ok (.iconst 1, 1) := by decide +kernel
theorem dX9_book_119 : decode cX9_book 119 = .ok (.ireturn, 1) := by decide +kernel
theorem dX9_unused_0 : decode cX9_unused 0 = .ok (.iconst 0, 1) := by decide +kernel
theorem dX9_unused_1 : decode cX9_unused 1 = .ok (.istore_n 3, 1) := by decide +kernel
theorem dX9_unused_2 : decode cX9_unused 2 = .ok (.iload_n 3, 1) := by decide +kernel
theorem dX9_unused_3 : decode cX9_unused 3 = .ok (.aload_n 0, 1) := by decide +kernel
theorem dX9_unused_4 : decode cX9_unused 4 = .ok (.getfield 150, 3) := by decide +kernel
theorem dX9_unused_7 : decode cX9_unused 7 = .ok (.if_icmp .ge 40, 3) := by decide +kernel
theorem dX9_unused_10 : decode cX9_unused 10 = .ok (.aload_n 0, 1) := by decide +kernel
theorem dX9_unused_11 : decode cX9_unused 11 = .ok (.getfield 85, 3) := by decide +kernel
theorem dX9_unused_14 : decode cX9_unused 14 = .ok (.iload_n 3, 1) := by decide +kernel
theorem dX9_unused_15 : decode cX9_unused 15 = .ok (.iaload, 1) := by decide +kernel
theorem dX9_unused_16 : decode cX9_unused 16 = .ok (.iload_n 1, 1) := by decide +kernel
theorem dX9_unused_17 : decode cX9_unused 17 = .ok (.if_icmp .ne 24, 3) := by decide +kernel
theorem dX9_unused_20 : decode cX9_unused 20 = .ok (.aload_n 0, 1) := by decide +kernel
theorem dX9_unused_21 : decode cX9_unused 21 = .ok (.getfield 88, 3) := by decide +kernel
theorem dX9_unused_24 : decode cX9_unused 24 = .ok (.iload_n 3, 1) := by decide +kernel
theorem dX9_unused_25 : decode cX9_unused 25 = .ok (.iaload, 1) := by decide +kernel
theorem dX9_unused_26 : decode cX9_unused 26 = .ok (.iload_n 2, 1) := by decide +kernel
theorem dX9_unused_27 : decode cX9_unused 27 = .ok (.if_icmp .ne 14, 3) := by decide +kernel
theorem dX9_unused_30 : decode cX9_unused 30 = .ok (.aload_n 0, 1) := by decide +kernel
theorem dX9_unused_31 : decode cX9_unused 31 = .ok (.getfield 94, 3) := by decide +kernel
theorem dX9_unused_34 : decode cX9_unused 34 = .ok (.iload_n 3, 1) := by decide +kernel
theorem dX9_unused_35 : decode cX9_unused 35 = .ok (.baload, 1) := by decide +kernel
theorem dX9_unused_36 : decode cX9_unused 36 = .ok (.ifCond .ne 5, 3) := by decide +kernel
theorem dX9_unused_39 : decode cX9_unused 39 = .ok (.iload_n 3, 1) := by decide +kernel
theorem dX9_unused_40 : decode cX9_unused 40 = .ok (.ireturn, 1) := by decide +kernel
theorem dX9_unused_41 : decode cX9_unused 41 = .ok (.iinc 3 1, 3) := by decide +kernel
theorem dX9_unused_44 : decode cX9_unused 44 = .ok (.goto (-42), 3) := by decide +kernel
theorem dX9_unused_47 : decode cX9_unused 47 = .ok (.iconst (-1), 1) := by decide +kernel
theorem dX9_unused_48 : decode cX9_unused 48 = .ok (.ireturn, 1) := by decide +kernel
theorem dX9_unbook_0 : decode cX9_unbook 0 = .ok (.iload_n 2, 1) := by decide +kernel
theorem dX9_unbook_1 : decode cX9_unbook 1 = .ok (.aload_n 0, 1) := by decide +kernel
theorem dX9_unbook_2 : decode cX9_unbook 2 = .ok (.getfield 128, 3) := by decide +kernel
theorem dX9_unbook_5 : decode cX9_unbook 5 = .ok (.if_icmp .ge 7, 3) := by decide +kernel
theorem dX9_unbook_8 : decode cX9_unbook 8 = .ok (.iconst (-1), 1) := by decide +kernel
theorem dX9_unbook_9 : decode cX9_unbook 9 = .ok (.goto 9, 3) := by decide +kernel
theorem dX9_unbook_12 : decode cX9_unbook 12 = .ok (.aload_n 0, 1) := by decide +kernel
theorem dX9_unbook_13 : decode cX9_unbook 13 = .ok (.iload_n 1, 1) := by decide +kernel
theorem dX9_unbook_14 : decode cX9_unbook 14 = .ok (.iload_n 2, 1) := by decide +kernel
theorem dX9_unbook_15 : decode cX9_unbook 15 = .ok (.invokevirtual 166, 3) := by decide +kernel
theorem dX9_unbook_18 : decode cX9_unbook 18 = .ok (.istore_n 3, 1) := by decide +kernel
theorem dX9_unbook_19 : decode cX9_unbook 19 = .ok (.iload_n 3, 1) := by decide +kernel
theorem dX9_unbook_20 : decode cX9_unbook 20 = .ok (.iconst (-1), 1) := by decide +kernel
theorem dX9_unbook_21 : decode cX9_unbook 21 = .ok (.if_icmp .ne 5, 3) := by decide +kernel
theorem dX9_unbook_24 : decode cX9_unbook 24 = .ok (.iconst 0, 1) := by decide +kernel
theorem dX9_unbook_25 : decode cX9_unbook 25 = .ok (.ireturn, 1) := by decide +kernel
theorem dX9_unbook_26 : decode cX9_unbook 26 = .ok (.aload_n 0, 1) := by decide +kernel
theorem dX9_unbook_27 : decode cX9_unbook 27 = .ok (.dup, 1) := by decide +kernel
theorem dX9_unbook_28 : decode cX9_unbook 28 = .ok (.getfield 150, 3) := by decide +kernel
theorem dX9_unbook_31 : decode cX9_unbook 31 = .ok (.iconst 1, 1) := by decide +kernel
theorem dX9_unbook_32 : decode cX9_unbook 32 = .ok (.isub, 1) := by decide +kernel
theorem dX9_unbook_33 : decode cX9_unbook 33 = .ok (.putfield 150, 3) := by decide +kernel
theorem dX9_unbook_36 : decode cX9_unbook 36 = .ok (.iload_n 3, 1) := by decide +kernel
theorem dX9_unbook_37 : decode cX9_unbook 37 = .ok (.istore 4, 2) := by decide +kernel
theorem dX9_unbook_39 : decode cX9_unbook 39 = .ok (.iload 4, 2) := by decide +kernel
theorem dX9_unbook_41 : decode cX9_unbook 41 = .ok (.aload_n 0, 1) := by decide +kernel
theorem dX9_unbook_42 : decode cX9_unbook 42 = .ok (.getfield 150, 3) := by decide +kernel
theorem dX9_unbook_45 : decode cX9_unbook 45 = .ok (.if_icmp .ge 73, 3) := by decide +kernel
theorem dX9_unbook_48 : decode cX9_unbook 48 = .ok (.aload_n 0, 1) := by decide +kernel
theorem dX9_unbook_49 : decode cX9_unbook 49 = .ok (.getfield 85, 3) := by decide +kernel
theorem dX9_unbook_52 : decode cX9_unbook 52 = .ok (.iload 4, 2) := by decide +kernel
theorem dX9_unbook_54 : decode cX9_unbook 54 = .ok (.aload_n 0, 1) := by decide +kernel
theorem dX9_unbook_55 : decode cX9_unbook 55 = .ok (.getfield 85, 3) := by decide +kernel
theorem dX9_unbook_58 : decode cX9_unbook 58 = .ok (.iload 4, 2) := by decide +kernel
theorem dX9_unbook_60 : decode cX9_unbook 60 = .ok (.iconst 1, 1) := by decide +kernel
theorem dX9_unbook_61 : decode cX9_unbook 61 = .ok (.iadd, 1) := by decide +kernel
theorem dX9_unbook_62 : decode cX9_unbook 62 = .ok (.iaload, 1) := by decide +kernel
theorem dX9_unbook_63 : decode cX9_unbook 63 = .ok (.iastore, 1) := by decide +kernel
theorem dX9_unbook_64 : decode cX9_unbook 64 = .ok (.aload_n 0, 1) := by decide +kernel
theorem dX9_unbook_65 : decode cX9_unbook 65 = .ok (.getfield 88, 3) := by decide +kernel
theorem dX9_unbook_68 : decode cX9_unbook 68 = .ok (.iload 4, 2) := by decide +kernel
theorem dX9_unbook_70 : decode cX9_unbook 70 = .ok (.aload_n 0, 1) := by decide +kernel
theorem dX9_unbook_71 : decode cX9_unbook 71 = .ok (.getfield 88, 3) := by decide +kernel
theorem dX9_unbook_74 : decode cX9_unbook 74 = .ok (.iload 4, 2) := by decide +kernel
theorem dX9_unbook_76 : decode cX9_unbook 76 = .ok (.iconst 1, 1) := by decide +kernel
theorem dX9_unbook_77 : decode cX9_unbook 77 = .ok (.iadd, 1) := by decide +kernel
theorem dX9_unbook_78 : decode cX9_unbook 78 = .ok (.iaload, 1) := by decide +kernel
theorem dX9_unbook_79 : decode cX9_unbook 79 = .ok (.iastore, 1) := by decide +kernel
theorem dX9_unbook_80 : decode cX9_unbook 80 = .ok (.aload_n 0, 1) := by decide +kernel
theorem dX9_unbook_81 : decode cX9_unbook 81 = .ok (.getfield 91, 3) := by decide +kernel
theorem dX9_unbook_84 : decode cX9_unbook 84 = .ok (.iload 4, 2) := by decide +kernel
theorem dX9_unbook_86 : decode cX9_unbook 86 = .ok (.aload_n 0, 1) := by decide +kernel
theorem dX9_unbook_87 : decode cX9_unbook 87 = .ok (.getfield 91, 3) := by decide +kernel
theorem dX9_unbook_90 : decode cX9_unbook 90 = .ok (.iload 4, 2) := by decide +kernel
theorem dX9_unbook_92 : decode cX9_unbook 92 = .ok (.iconst 1, 1) := by decide +kernel
theorem dX9_unbook_93 : decode cX9_unbook 93 = .ok (.iadd, 1) := by decide +kernel
theorem dX9_unbook_94 : decode cX9_unbook 94 = .ok (.iaload, 1) := by decide +kernel
theorem dX9_unbook_95 : decode cX9_unbook 95 = .ok (.iastore, 1) := by decide +kernel
theorem dX9_unbook_96 : decode cX9_unbook 96 = .ok (.aload_n 0, 1) := by decide +kernel
theorem dX9_unbook_97 : decode cX9_unbook 97 = .ok (.getfield 94, 3) := by decide +kernel
theorem dX9_unbook_100 : decode cX9_unbook 100 = .ok (.iload 4, 2) := by decide +kernel
theorem dX9_unbook_102 : decode cX9_unbook 102 = .ok (.aload_n 0, 1) := by decide +kernel
theorem dX9_unbook_103 : decode cX9_unbook 103 = .ok (.getfield 94, 3) := by decide +kernel
theorem dX9_unbook_106 : decode cX9_unbook 106 = .ok (.iload 4, 2) := by decide +kernel
theorem dX9_unbook_108 : decode cX9_unbook 108 = .ok (.iconst 1, 1) := by decide +kernel
theorem dX9_unbook_109 : decode cX9_unbook 109 = .ok (.iadd, 1) := by decide +kernel
theorem dX9_unbook_110 : decode cX9_unbook 110 = .ok (.baload, 1) := by decide +kernel
theorem dX9_unbook_111 : decode cX9_unbook 111 = .ok (.bastore, 1) := by decide +kernel
theorem dX9_unbook_112 : decode cX9_unbook 112 = .ok (.iinc 4 1, 3) := by decide +kernel
theorem dX9_unbook_115 : decode cX9_unbook 115 = .ok (.goto (-76), 3) := by decide +kernel
theorem dX9_unbook_118 : decode cX9_unbook 118 = .ok (.iconst 1, 1) := by decide +kernel
theorem dX9_unbook_119 : decode cX9_unbook 119 = .ok (.ireturn, 1) := by decide +kernel
theorem dX9_isWet_0 : decode cX9_isWet 0 = .ok (.aload_n 0, 1) := by decide +kernel
theorem dX9_isWet_1 : decode cX9_isWet 1 = .ok (.getfield 70, 3) := by decide +kernel
theorem dX9_isWet_4 : decode cX9_isWet 4 = .ok (.iload_n 1, 1) := by decide +kernel
theorem dX9_isWet_5 : decode cX9_isWet 5 = .ok (.aaload, 1) := by decide +kernel
theorem dX9_isWet_6 : decode cX9_isWet 6 = .ok (.iload_n 2, 1) := by decide +kernel
theorem dX9_isWet_7 : decode cX9_isWet 7 = .ok (.iaload, 1) := by decide +kernel
theorem dX9_isWet_8 : decode cX9_isWet 8 = .ok (.iconst (-1), 1) := by decide +kernel
theorem dX9_isWet_9 : decode cX9_isWet 9 = .ok (.if_icmp .eq 29, 3) := by decide +kernel
theorem dX9_isWet_12 : decode cX9_isWet 12 = .ok (.aload_n 0, 1) := by decide +kernel
theorem dX9_isWet_13 : decode cX9_isWet 13 = .ok (.getfield 128, 3) := by decide +kernel
theorem dX9_isWet_16 : decode cX9_isWet 16 = .ok (.aload_n 0, 1) := by decide +kernel
theorem dX9_isWet_17 : decode cX9_isWet 17 = .ok (.getfield 70, 3) := by decide +kernel
theorem dX9_isWet_20 : decode cX9_isWet 20 = .ok (.iload_n 1, 1) := by decide +kernel
theorem dX9_isWet_21 : decode cX9_isWet 21 = .ok (.aaload, 1) := by decide +kernel
theorem dX9_isWet_22 : decode cX9_isWet 22 = .ok (.iload_n 2, 1) := by decide +kernel
theorem dX9_isWet_23 : decode cX9_isWet 23 = .ok (.iaload, 1) := by decide +kernel
theorem dX9_isWet_24 : decode cX9_isWet 24 = .ok (.isub, 1) := by decide +kernel
theorem dX9_isWet_25 : decode cX9_isWet 25 = .ok (.aload_n 0, 1) := by decide +kernel
theorem dX9_isWet_26 : decode cX9_isWet 26 = .ok (.getfield 19, 3) := by decide +kernel
theorem dX9_isWet_29 : decode cX9_isWet 29 = .ok (.iload_n 2, 1) := by decide +kernel
theorem dX9_isWet_30 : decode cX9_isWet 30 = .ok (.iaload, 1) := by decide +kernel
theorem dX9_isWet_31 : decode cX9_isWet 31 = .ok (.if_icmp .ge 7, 3) := by decide +kernel
theorem dX9_isWet_34 : decode cX9_isWet 34 = .ok (.iconst 1, 1) := by decide +kernel
theorem dX9_isWet_35 : decode cX9_isWet 35 = .ok (.goto 4, 3) := by decide +kernel
theorem dX9_isWet_38 : decode cX9_isWet 38 = .ok (.iconst 0, 1) := by decide +kernel
theorem dX9_isWet_39 : decode cX9_isWet 39 = .ok (.ireturn, 1) := by decide +kernel
theorem dX9_against_0 : decode cX9_against 0 = .ok (.aload_n 0, 1) := by decide +kernel
theorem dX9_against_1 : decode cX9_against 1 = .ok (.getfield 67, 3) := by decide +kernel
theorem dX9_against_4 : decode cX9_against 4 = .ok (.iload_n 1, 1) := by decide +kernel
theorem dX9_against_5 : decode cX9_against 5 = .ok (.aaload, 1) := by decide +kernel
theorem dX9_against_6 : decode cX9_against 6 = .ok (.iload_n 2, 1) := by decide +kernel
theorem dX9_against_7 : decode cX9_against 7 = .ok (.iaload, 1) := by decide +kernel
theorem dX9_against_8 : decode cX9_against 8 = .ok (.aload_n 0, 1) := by decide +kernel
theorem dX9_against_9 : decode cX9_against 9 = .ok (.getfield 64, 3) := by decide +kernel
theorem dX9_against_12 : decode cX9_against 12 = .ok (.iload_n 1, 1) := by decide +kernel
theorem dX9_against_13 : decode cX9_against 13 = .ok (.aaload, 1) := by decide +kernel
theorem dX9_against_14 : decode cX9_against 14 = .ok (.iload_n 2, 1) := by decide +kernel
theorem dX9_against_15 : decode cX9_against 15 = .ok (.iaload, 1) := by decide +kernel
theorem dX9_against_16 : decode cX9_against 16 = .ok (.if_icmp .ne 5, 3) := by decide +kernel
theorem dX9_against_19 : decode cX9_against 19 = .ok (.iconst 1, 1) := by decide +kernel
theorem dX9_against_20 : decode cX9_against 20 = .ok (.ireturn, 1) := by decide +kernel
theorem dX9_against_21 : decode cX9_against 21 = .ok (.aload_n 0, 1) := by decide +kernel
theorem dX9_against_22 : decode cX9_against 22 = .ok (.iload_n 1, 1) := by decide +kernel
theorem dX9_against_23 : decode cX9_against 23 = .ok (.iload_n 2, 1) := by decide +kernel
theorem dX9_against_24 : decode cX9_against 24 = .ok (.invokevirtual 169, 3) := by decide +kernel
theorem dX9_against_27 : decode cX9_against 27 = .ok (.ifCond .eq 5, 3) := by decide +kernel
theorem dX9_against_30 : decode cX9_against 30 = .ok (.iconst 2, 1) := by decide +kernel
theorem dX9_against_31 : decode cX9_against 31 = .ok (.ireturn, 1) := by decide +kernel
theorem dX9_against_32 : decode cX9_against 32 = .ok (.iload_n 2, 1) := by decide +kernel
theorem dX9_against_33 : decode cX9_against 33 = .ok (.ifCond .ne 9, 3) := by decide +kernel
theorem dX9_against_36 : decode cX9_against 36 = .ok (.iload_n 3, 1) := by decide +kernel
theorem dX9_against_37 : decode cX9_against 37 = .ok (.ifCond .eq 5, 3) := by decide +kernel
theorem dX9_against_40 : decode cX9_against 40 = .ok (.iconst 3, 1) := by decide +kernel
theorem dX9_against_41 : decode cX9_against 41 = .ok (.ireturn, 1) := by decide +kernel
theorem dX9_against_42 : decode cX9_against 42 = .ok (.aload_n 0, 1) := by decide +kernel
theorem dX9_against_43 : decode cX9_against 43 = .ok (.getfield 22, 3) := by decide +kernel
theorem dX9_against_46 : decode cX9_against 46 = .ok (.iload_n 3, 1) := by decide +kernel
theorem dX9_against_47 : decode cX9_against 47 = .ok (.iaload, 1) := by decide +kernel
theorem dX9_against_48 : decode cX9_against 48 = .ok (.aload_n 0, 1) := by decide +kernel
theorem dX9_against_49 : decode cX9_against 49 = .ok (.getfield 128, 3) := by decide +kernel
theorem dX9_against_52 : decode cX9_against 52 = .ok (.if_icmp .ne 15, 3) := by decide +kernel
theorem dX9_against_55 : decode cX9_against 55 = .ok (.aload_n 0, 1) := by decide +kernel
theorem dX9_against_56 : decode cX9_against 56 = .ok (.getfield 25, 3) := by decide +kernel
theorem dX9_against_59 : decode cX9_against 59 = .ok (.iload_n 3, 1) := by decide +kernel
theorem dX9_against_60 : decode cX9_against 60 = .ok (.iaload, 1) := by decide +kernel
theorem dX9_against_61 : decode cX9_against 61 = .ok (.iconst 3, 1) := by decide +kernel
theorem dX9_against_62 : decode cX9_against 62 = .ok (.if_icmp .ne 5, 3) := by decide +kernel
theorem dX9_against_65 : decode cX9_against 65 = .ok (.iconst 4, 1) := by decide +kernel
theorem dX9_against_66 : decode cX9_against 66 = .ok (.ireturn, 1) := by decide +kernel
theorem dX9_against_67 : decode cX9_against 67 = .ok (.iload_n 2, 1) := by decide +kernel
theorem dX9_against_68 : decode cX9_against 68 = .ok (.ifCond .ne 18, 3) := by decide +kernel
theorem dX9_against_71 : decode cX9_against 71 = .ok (.aload_n 0, 1) := by decide +kernel
theorem dX9_against_72 : decode cX9_against 72 = .ok (.iload_n 1, 1) := by decide +kernel
theorem dX9_against_73 : decode cX9_against 73 = .ok (.aload_n 0, 1) := by decide +kernel
theorem dX9_against_74 : decode cX9_against 74 = .ok (.getfield 128, 3) := by decide +kernel
theorem dX9_against_77 : decode cX9_against 77 = .ok (.invokevirtual 166, 3) := by decide +kernel
theorem dX9_against_80 : decode cX9_against 80 = .ok (.iconst (-1), 1) := by decide +kernel
theorem dX9_against_81 : decode cX9_against 81 = .ok (.if_icmp .ne 5, 3) := by decide +kernel
theorem dX9_against_84 : decode cX9_against 84 = .ok (.iconst 5, 1) := by decide +kernel
theorem dX9_against_85 : decode cX9_against 85 = .ok (.ireturn, 1) := by decide +kernel
theorem dX9_against_86 : decode cX9_against 86 = .ok (.iload_n 2, 1) := by decide +kernel
theorem dX9_against_87 : decode cX9_against 87 = .ok (.iconst 2, 1) := by decide +kernel
theorem dX9_against_88 : decode cX9_against 88 = .ok (.if_icmp .ne 51, 3) := by decide +kernel
theorem dX9_against_91 : decode cX9_against 91 = .ok (.aload_n 0, 1) := by decide +kernel
theorem dX9_against_92 : decode cX9_against 92 = .ok (.getfield 56, 3) := by decide +kernel
theorem dX9_against_95 : decode cX9_against 95 = .ok (.iload_n 1, 1) := by decide +kernel
theorem dX9_against_96 : decode cX9_against 96 = .ok (.iaload, 1) := by decide +kernel
theorem dX9_against_97 : decode cX9_against 97 = .ok (.iconst (-1), 1) := by decide +kernel
theorem dX9_against_98 : decode cX9_against 98 = .ok (.if_icmp .eq 41, 3) := by decide +kernel
theorem dX9_against_101 : decode cX9_against 101 = .ok (.aload_n 0, 1) := by decide +kernel
theorem dX9_against_102 : decode cX9_against 102 = .ok (.getfield 79, 3) := by decide +kernel
theorem dX9_against_105 : decode cX9_against 105 = .ok (.aload_n 0, 1) := by decide +kernel
theorem dX9_against_106 : decode cX9_against 106 = .ok (.getfield 56, 3) := by decide +kernel
theorem dX9_against_109 : decode cX9_against 109 = .ok (.iload_n 1, 1) := by decide +kernel
theorem dX9_against_110 : decode cX9_against 110 = .ok (.iaload, 1) := by decide +kernel
theorem dX9_against_111 : decode cX9_against 111 = .ok (.iaload, 1) := by decide +kernel
theorem dX9_against_112 : decode cX9_against 112 = .ok (.aload_n 0, 1) := by decide +kernel
theorem dX9_against_113 : decode cX9_against 113 = .ok (.getfield 128, 3) := by decide +kernel
theorem dX9_against_116 : decode cX9_against 116 = .ok (.if_icmp .ne 23, 3) := by decide +kernel
theorem dX9_against_119 : decode cX9_against 119 = .ok (.aload_n 0, 1) := by decide +kernel
theorem dX9_against_120 : decode cX9_against 120 = .ok (.getfield 82, 3) := by decide +kernel
theorem dX9_against_123 : decode cX9_against 123 = .ok (.aload_n 0, 1) := by decide +kernel
theorem dX9_against_124 : decode cX9_against 124 = .ok (.getfield 56, 3) := by decide +kernel
theorem dX9_against_127 : decode cX9_against 127 = .ok (.iload_n 1, 1) := by decide +kernel
theorem dX9_against_128 : decode cX9_against 128 = .ok (.iaload, 1) := by decide +kernel
theorem dX9_against_129 : decode cX9_against 129 = .ok (.iaload, 1) := by decide +kernel
theorem dX9_against_130 : decode cX9_against 130 = .ok (.iload_n 1, 1) := by decide +kernel
theorem dX9_against_131 : decode cX9_against 131 = .ok (.if_icmp .eq 8, 3) := by decide +kernel
theorem dX9_against_134 : decode cX9_against 134 = .ok (.bipush 6, 2) := by decide +kernel
theorem dX9_against_136 : decode cX9_against 136 = .ok (.goto 4, 3) := by decide +kernel
theorem dX9_against_139 : decode cX9_against 139 = .ok (.iconst 0, 1) := by decide +kernel
theorem dX9_against_140 : decode cX9_against 140 = .ok (.ireturn, 1) := by decide +kernel
theorem dX9_isDone_0 : decode cX9_isDone 0 = .ok (.iconst 1, 1) := by decide +kernel
theorem dX9_isDone_1 : decode cX9_isDone 1 = .ok (.istore_n 2, 1) := by decide +kernel
theorem dX9_isDone_2 : decode cX9_isDone 2 = .ok (.iconst 0, 1) := by decide +kernel
theorem dX9_isDone_3 : decode cX9_isDone 3 = .ok (.istore_n 3, 1) := by decide +kernel
theorem dX9_isDone_4 : decode cX9_isDone 4 = .ok (.iload_n 3, 1) := by decide +kernel
theorem dX9_isDone_5 : decode cX9_isDone 5 = .ok (.iconst 5, 1) := by decide +kernel
theorem dX9_isDone_6 : decode cX9_isDone 6 = .ok (.if_icmp .ge 38, 3) := by decide +kernel
theorem dX9_isDone_9 : decode cX9_isDone 9 = .ok (.iload_n 2, 1) := by decide +kernel
theorem dX9_isDone_10 : decode cX9_isDone 10 = .ok (.ifCond .eq 26, 3) := by decide +kernel
theorem dX9_isDone_13 : decode cX9_isDone 13 = .ok (.aload_n 0, 1) := by decide +kernel
theorem dX9_isDone_14 : decode cX9_isDone 14 = .ok (.getfield 67, 3) := by decide +kernel
theorem dX9_isDone_17 : decode cX9_isDone 17 = .ok (.iload_n 1, 1) := by decide +kernel
theorem dX9_isDone_18 : decode cX9_isDone 18 = .ok (.aaload, 1) := by decide +kernel
theorem dX9_isDone_19 : decode cX9_isDone 19 = .ok (.iload_n 3, 1) := by decide +kernel
theorem dX9_isDone_20 : decode cX9_isDone 20 = .ok (.iaload, 1) := by decide +kernel
theorem dX9_isDone_21 : decode cX9_isDone 21 = .ok (.aload_n 0, 1) := by decide +kernel
theorem dX9_isDone_22 : decode cX9_isDone 22 = .ok (.getfield 64, 3) := by decide +kernel
theorem dX9_isDone_25 : decode cX9_isDone 25 = .ok (.iload_n 1, 1) := by decide +kernel
theorem dX9_isDone_26 : decode cX9_isDone 26 = .ok (.aaload, 1) := by decide +kernel
theorem dX9_isDone_27 : decode cX9_isDone 27 = .ok (.iload_n 3, 1) := by decide +kernel
theorem dX9_isDone_28 : decode cX9_isDone 28 = .ok (.iaload, 1) := by decide +kernel
theorem dX9_isDone_29 : decode cX9_isDone 29 = .ok (.if_icmp .ne 7, 3) := by decide +kernel
theorem dX9_isDone_32 : decode cX9_isDone 32 = .ok (.iconst 1, 1) := by decide +kernel
theorem dX9_isDone_33 : decode cX9_isDone 33 = .ok (.goto 4, 3) := by decide +kernel
theorem dX9_isDone_36 : decode cX9_isDone 36 = .ok (.iconst 0, 1) := by decide +kernel
theorem dX9_isDone_37 : decode cX9_isDone 37 = .ok (.istore_n 2, 1) := by decide +kernel
theorem dX9_isDone_38 : decode cX9_isDone 38 = .ok (.iinc 3 1, 3) := by decide +kernel
theorem dX9_isDone_41 : decode cX9_isDone 41 = .ok (.goto (-37), 3) := by decide +kernel
theorem dX9_isDone_44 : decode cX9_isDone 44 = .ok (.iload_n 2, 1) := by decide +kernel
theorem dX9_isDone_45 : decode cX9_isDone 45 = .ok (.ireturn, 1) := by decide +kernel
theorem dX9_paint_0 : decode cX9_paint 0 = .ok (.aload_n 0, 1) := by decide +kernel
theorem dX9_paint_1 : decode cX9_paint 1 = .ok (.iload_n 1, 1) := by decide +kernel
theorem dX9_paint_2 : decode cX9_paint 2 = .ok (.invokevirtual 157, 3) := by decide +kernel
theorem dX9_paint_5 : decode cX9_paint 5 = .ok (.ifCond .eq 20, 3) := by decide +kernel
theorem dX9_paint_8 : decode cX9_paint 8 = .ok (.iload_n 2, 1) := by decide +kernel
theorem dX9_paint_9 : decode cX9_paint 9 = .ok (.iconst 0, 1) := by decide +kernel
theorem dX9_paint_10 : decode cX9_paint 10 = .ok (.iconst 4, 1) := by decide +kernel
theorem dX9_paint_11 : decode cX9_paint 11 = .ok (.invokestatic 113, 3) := by decide +kernel
theorem dX9_paint_14 : decode cX9_paint 14 = .ok (.ifCond .eq 11, 3) := by decide +kernel
theorem dX9_paint_17 : decode cX9_paint 17 = .ok (.aload_n 0, 1) := by decide +kernel
theorem dX9_paint_18 : decode cX9_paint 18 = .ok (.iload_n 3, 1) := by decide +kernel
theorem dX9_paint_19 : decode cX9_paint 19 = .ok (.invokevirtual 172, 3) := by decide +kernel
theorem dX9_paint_22 : decode cX9_paint 22 = .ok (.ifCond .ne 5, 3) := by decide +kernel
theorem dX9_paint_25 : decode cX9_paint 25 = .ok (.iconst (-1), 1) := by decide +kernel
theorem dX9_paint_26 : decode cX9_paint 26 = .ok (.ireturn, 1) := by decide +kernel
theorem dX9_paint_27 : decode cX9_paint 27 = .ok (.aload_n 0, 1) := by decide +kernel
theorem dX9_paint_28 : decode cX9_paint 28 = .ok (.iload_n 1, 1) := by decide +kernel
theorem dX9_paint_29 : decode cX9_paint 29 = .ok (.iload_n 2, 1) := by decide +kernel
theorem dX9_paint_30 : decode cX9_paint 30 = .ok (.iload_n 3, 1) := by decide +kernel
theorem dX9_paint_31 : decode cX9_paint 31 = .ok (.invokevirtual 175, 3) := by decide +kernel
theorem dX9_paint_34 : decode cX9_paint 34 = .ok (.istore 4, 2) := by decide +kernel
theorem dX9_paint_36 : decode cX9_paint 36 = .ok (.iload 4, 2) := by decide +kernel
theorem dX9_paint_38 : decode cX9_paint 38 = .ok (.ifCond .le 6, 3) := by decide +kernel
theorem dX9_paint_41 : decode cX9_paint 41 = .ok (.iload 4, 2) := by decide +kernel
theorem dX9_paint_43 : decode cX9_paint 43 = .ok (.ireturn, 1) := by decide +kernel
theorem dX9_paint_44 : decode cX9_paint 44 = .ok (.iload_n 2, 1) := by decide +kernel
theorem dX9_paint_45 : decode cX9_paint 45 = .ok (.ifCond .ne 18, 3) := by decide +kernel
theorem dX9_paint_48 : decode cX9_paint 48 = .ok (.aload_n 0, 1) := by decide +kernel
theorem dX9_paint_49 : decode cX9_paint 49 = .ok (.getfield 94, 3) := by decide +kernel
theorem dX9_paint_52 : decode cX9_paint 52 = .ok (.aload_n 0, 1) := by decide +kernel
theorem dX9_paint_53 : decode cX9_paint 53 = .ok (.iload_n 1, 1) := by decide +kernel
theorem dX9_paint_54 : decode cX9_paint 54 = .ok (.aload_n 0, 1) := by decide +kernel
theorem dX9_paint_55 : decode cX9_paint 55 = .ok (.getfield 128, 3) := by decide +kernel
theorem dX9_paint_58 : decode cX9_paint 58 = .ok (.invokevirtual 166, 3) := by decide +kernel
theorem dX9_paint_61 : decode cX9_paint 61 = .ok (.iconst 1, 1) := by decide +kernel
theorem dX9_paint_62 : decode cX9_paint 62 = .ok (.bastore, 1) := by decide +kernel
theorem dX9_paint_63 : decode cX9_paint 63 = .ok (.iload_n 2, 1) := by decide +kernel
theorem dX9_paint_64 : decode cX9_paint 64 = .ok (.iconst 2, 1) := by decide +kernel
theorem dX9_paint_65 : decode cX9_paint 65 = .ok (.if_icmp .ne 40, 3) := by decide +kernel
theorem dX9_paint_68 : decode cX9_paint 68 = .ok (.aload_n 0, 1) := by decide +kernel
theorem dX9_paint_69 : decode cX9_paint 69 = .ok (.getfield 56, 3) := by decide +kernel
theorem dX9_paint_72 : decode cX9_paint 72 = .ok (.iload_n 1, 1) := by decide +kernel
theorem dX9_paint_73 : decode cX9_paint 73 = .ok (.iaload, 1) := by decide +kernel
theorem dX9_paint_74 : decode cX9_paint 74 = .ok (.iconst (-1), 1) := by decide +kernel
theorem dX9_paint_75 : decode cX9_paint 75 = .ok (.if_icmp .eq 30, 3) := by decide +kernel
theorem dX9_paint_78 : decode cX9_paint 78 = .ok (.aload_n 0, 1) := by decide +kernel
theorem dX9_paint_79 : decode cX9_paint 79 = .ok (.getfield 79, 3) := by decide +kernel
theorem dX9_paint_82 : decode cX9_paint 82 = .ok (.aload_n 0, 1) := by decide +kernel
theorem dX9_paint_83 : decode cX9_paint 83 = .ok (.getfield 56, 3) := by decide +kernel
theorem dX9_paint_86 : decode cX9_paint 86 = .ok (.iload_n 1, 1) := by decide +kernel
theorem dX9_paint_87 : decode cX9_paint 87 = .ok (.iaload, 1) := by decide +kernel
theorem dX9_paint_88 : decode cX9_paint 88 = .ok (.aload_n 0, 1) := by decide +kernel
theorem dX9_paint_89 : decode cX9_paint 89 = .ok (.getfield 128, 3) := by decide +kernel
theorem dX9_paint_92 : decode cX9_paint 92 = .ok (.iastore, 1) := by decide +kernel
theorem dX9_paint_93 : decode cX9_paint 93 = .ok (.aload_n 0, 1) := by decide +kernel
theorem dX9_paint_94 : decode cX9_paint 94 = .ok (.getfield 82, 3) := by decide +kernel
theorem dX9_paint_97 : decode cX9_paint 97 = .ok (.aload_n 0, 1) := by decide +kernel
theorem dX9_paint_98 : decode cX9_paint 98 = .ok (.getfield 56, 3) := by decide +kernel
theorem dX9_paint_101 : decode cX9_paint 101 = .ok (.iload_n 1, 1) := by decide +kernel
theorem dX9_paint_102 : decode cX9_paint 102 = .ok (.iaload, 1) := by decide +kernel
theorem dX9_paint_103 : decode cX9_paint 103 = .ok (.iload_n 1, 1) := by decide +kernel
theorem dX9_paint_104 : decode cX9_paint 104 = .ok (.iastore, 1) := by decide +kernel
theorem dX9_paint_105 : decode cX9_paint 105 = .ok (.aload_n 0, 1) := by decide +kernel
theorem dX9_paint_106 : decode cX9_paint 106 = .ok (.getfield 25, 3) := by decide +kernel
theorem dX9_paint_109 : decode cX9_paint 109 = .ok (.iload_n 3, 1) := by decide +kernel
theorem dX9_paint_110 : decode cX9_paint 110 = .ok (.aload_n 0, 1) := by decide +kernel
theorem dX9_paint_111 : decode cX9_paint 111 = .ok (.getfield 22, 3) := by decide +kernel
theorem dX9_paint_114 : decode cX9_paint 114 = .ok (.iload_n 3, 1) := by decide +kernel
theorem dX9_paint_115 : decode cX9_paint 115 = .ok (.iaload, 1) := by decide +kernel
theorem dX9_paint_116 : decode cX9_paint 116 = .ok (.aload_n 0, 1) := by decide +kernel
theorem dX9_paint_117 : decode cX9_paint 117 = .ok (.getfield 128, 3) := by decide +kernel
theorem dX9_paint_120 : decode cX9_paint 120 = .ok (.if_icmp .ne 14, 3) := by decide +kernel
theorem dX9_paint_123 : decode cX9_paint 123 = .ok (.aload_n 0, 1) := by decide +kernel
theorem dX9_paint_124 : decode cX9_paint 124 = .ok (.getfield 25, 3) := by decide +kernel
theorem dX9_paint_127 : decode cX9_paint 127 = .ok (.iload_n 3, 1) := by decide +kernel
theorem dX9_paint_128 : decode cX9_paint 128 = .ok (.iaload, 1) := by decide +kernel
theorem dX9_paint_129 : decode cX9_paint 129 = .ok (.iconst 1, 1) := by decide +kernel
theorem dX9_paint_130 : decode cX9_paint 130 = .ok (.iadd, 1) := by decide +kernel
theorem dX9_paint_131 : decode cX9_paint 131 = .ok (.goto 4, 3) := by decide +kernel
theorem dX9_paint_134 : decode cX9_paint 134 = .ok (.iconst 1, 1) := by decide +kernel
theorem dX9_paint_135 : decode cX9_paint 135 = .ok (.iastore, 1) := by decide +kernel
theorem dX9_paint_136 : decode cX9_paint 136 = .ok (.aload_n 0, 1) := by decide +kernel
theorem dX9_paint_137 : decode cX9_paint 137 = .ok (.getfield 22, 3) := by decide +kernel
theorem dX9_paint_140 : decode cX9_paint 140 = .ok (.iload_n 3, 1) := by decide +kernel
theorem dX9_paint_141 : decode cX9_paint 141 = .ok (.aload_n 0, 1) := by decide +kernel
theorem dX9_paint_142 : decode cX9_paint 142 = .ok (.getfield 128, 3) := by decide +kernel
theorem dX9_paint_145 : decode cX9_paint 145 = .ok (.iastore, 1) := by decide +kernel
theorem dX9_paint_146 : decode cX9_paint 146 = .ok (.aload_n 0, 1) := by decide +kernel
theorem dX9_paint_147 : decode cX9_paint 147 = .ok (.getfield 67, 3) := by decide +kernel
theorem dX9_paint_150 : decode cX9_paint 150 = .ok (.iload_n 1, 1) := by decide +kernel
theorem dX9_paint_151 : decode cX9_paint 151 = .ok (.aaload, 1) := by decide +kernel
theorem dX9_paint_152 : decode cX9_paint 152 = .ok (.iload_n 2, 1) := by decide +kernel
theorem dX9_paint_153 : decode cX9_paint 153 = .ok (.dup2, 1) := by decide +kernel
theorem dX9_paint_154 : decode cX9_paint 154 = .ok (.iaload, 1) := by decide +kernel
theorem dX9_paint_155 : decode cX9_paint 155 = .ok (.iconst 1, 1) := by decide +kernel
theorem dX9_paint_156 : decode cX9_paint 156 = .ok (.iadd, 1) := by decide +kernel
theorem dX9_paint_157 : decode cX9_paint 157 = .ok (.iastore, 1) := by decide +kernel
theorem dX9_paint_158 : decode cX9_paint 158 = .ok (.aload_n 0, 1) := by decide +kernel
theorem dX9_paint_159 : decode cX9_paint 159 = .ok (.getfield 70, 3) := by decide +kernel
theorem dX9_paint_162 : decode cX9_paint 162 = .ok (.iload_n 1, 1) := by decide +kernel
theorem dX9_paint_163 : decode cX9_paint 163 = .ok (.aaload, 1) := by decide +kernel
theorem dX9_paint_164 : decode cX9_paint 164 = .ok (.iload_n 2, 1) := by decide +kernel
theorem dX9_paint_165 : decode cX9_paint 165 = .ok (.aload_n 0, 1) := by decide +kernel
theorem dX9_paint_166 : decode cX9_paint 166 = .ok (.getfield 128, 3) := by decide +kernel
theorem dX9_paint_169 : decode cX9_paint 169 = .ok (.iastore, 1) := by decide +kernel
